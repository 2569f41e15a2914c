section
variable {p : Program} {l : Launch} {e : Env} {s : State} {m : MethodId} {args : Array Value} {below : List Frame} {meth : Method} {c : Code} {D : va_G} {base : Nat}
set_option maxRecDepth 100000 in
set_option maxHeartbeats 4000000 in
theorem kX9_isGood_b300 {r : Int32} {h' : zH} (F : zF p s m args meth c cX9_isGood 5 RX9 (some .boolean))  (h : zH) (hf : fX9_isGood_b300  h = some (r, h')) (H : Heap) (locs : List Loc) (ls : Array Slot) (hl : zhas ls 5 []) (hW : z_W D base s h H) (hS : va_S (zA base) s.heap H locs) : W p l e rmX9_isGood s m args below meth c H locs 0 0 (MQ below (zQ D base (some (.int r)) h') args s rmX9_isGood.cells rmX9_isGood.slots (zA base)) (F0 m 300 ls []) := by
  obtain ⟨hx, hb, hml, hown, hts, hret, hlk, hZ⟩ := id F
  unfold fX9_isGood_b300 at hf
  refine lv_iconst (v := 1) hx hb dX9_isGood_300 (by decide) ?_
  refine lv_goto (tgt := 305) hx hb dX9_isGood_301 (by decide) ?_
  obtain ⟨rfl, rfl⟩ := oret hf
  exact zw_zreturn F (by decide) hW hS dX9_isGood_305
set_option maxRecDepth 100000 in
set_option maxHeartbeats 4000000 in
theorem kX9_isGood_w (F : zF p s m args meth c cX9_isGood 5 RX9 (some .boolean)) {r : Int32} {h' : zH} (a0 : Option Nat) (a1 : Int32) (a2 : Int32) (a3 : Int32) (a4 : Int32) (h : zH) (hf : fX9_isGood a0 a1 a2 a3 a4 h = some (r, h')) (H : Heap) (locs : List Loc) (ls : Array Slot) (hl : zhas ls 5 [(0, va_rf a0), (1, .int a1), (2, .int a2), (3, .int a3), (4, .int a4)]) (hW : z_W D base s h H) (hS : va_S (zA base) s.heap H locs) : W p l e rmX9_isGood s m args below meth c H locs 0 0 (MQ below (zQ D base (some (.int r)) h') args s rmX9_isGood.cells rmX9_isGood.slots (zA base)) (F0 m 0 ls []) := by
  obtain ⟨hx, hb, hml, hown, hts, hret, hlk, hZ⟩ := id F
  unfold fX9_isGood at hf
  refine lv_iload_n hx hb dX9_isGood_0 rfl (lv_at hl.1 2 rfl) ?_
  by_cases c1 : a2 = 2
  · have hf := oift c1 hf
    refine zl_tab hx hb (2) (155) (tgt := 156) dX9_isGood_1 (by rw [c1]; decide) (by decide) ?_
    refine lv_iload_n hx hb dX9_isGood_156 rfl (lv_at hl.1 3 rfl) ?_
    refine lv_if_lt (tgt := 174) hx hb dX9_isGood_157 (by decide) (fun c2 => ?_) (fun c2 => ?_)
    · have hf := oift c2 hf
      refine lv_iconst (v := 0) hx hb dX9_isGood_174 (by decide) ?_
      obtain ⟨rfl, rfl⟩ := oret hf
      exact zw_zreturn F (by decide) hW hS dX9_isGood_175
    · have hf := oiff c2 hf
      refine lv_iload_n hx hb dX9_isGood_160 rfl (lv_at hl.1 3 rfl) ?_
      refine zw_aload_n hx hb dX9_isGood_161 rfl (lv_at hl.1 0 rfl) ?_
      obtain ⟨v3, e3, hf⟩ := ob hf
      refine zw_gR hx hb hts inX9 hown hW (ci := 9) rfl (by decide) 9 (by decide) (hts _ wd_598) e3 (fun _ _ => rfl) dX9_isGood_162 ?_
      refine lv_iload_n hx hb dX9_isGood_165 rfl (lv_at hl.1 1 rfl) ?_
      obtain ⟨v4, e4, hf⟩ := ob hf
      refine zw_aI hx hb hW e4 dX9_isGood_166 ?_
      refine lv_icmp_ge (tgt := 174) hx hb dX9_isGood_167 (by decide) (fun c5 => ?_) (fun c5 => ?_)
      · have hf := oift c5 hf
        refine lv_iconst (v := 0) hx hb dX9_isGood_174 (by decide) ?_
        obtain ⟨rfl, rfl⟩ := oret hf
        exact zw_zreturn F (by decide) hW hS dX9_isGood_175
      · have hf := oiff c5 hf
        refine lv_iconst (v := 1) hx hb dX9_isGood_170 (by decide) ?_
        refine lv_goto (tgt := 175) hx hb dX9_isGood_171 (by decide) ?_
        obtain ⟨rfl, rfl⟩ := oret hf
        exact zw_zreturn F (by decide) hW hS dX9_isGood_175
  · have hf := oiff c1 hf
    by_cases c6 : a2 = 3
    · have hf := oift c6 hf
      refine zl_tab hx hb (3) (155) (tgt := 156) dX9_isGood_1 (by rw [c6]; decide) (by decide) ?_
      refine lv_iload_n hx hb dX9_isGood_156 rfl (lv_at hl.1 3 rfl) ?_
      refine lv_if_lt (tgt := 174) hx hb dX9_isGood_157 (by decide) (fun c7 => ?_) (fun c7 => ?_)
      · have hf := oift c7 hf
        refine lv_iconst (v := 0) hx hb dX9_isGood_174 (by decide) ?_
        obtain ⟨rfl, rfl⟩ := oret hf
        exact zw_zreturn F (by decide) hW hS dX9_isGood_175
      · have hf := oiff c7 hf
        refine lv_iload_n hx hb dX9_isGood_160 rfl (lv_at hl.1 3 rfl) ?_
        refine zw_aload_n hx hb dX9_isGood_161 rfl (lv_at hl.1 0 rfl) ?_
        obtain ⟨v8, e8, hf⟩ := ob hf
        refine zw_gR hx hb hts inX9 hown hW (ci := 9) rfl (by decide) 9 (by decide) (hts _ wd_598) e8 (fun _ _ => rfl) dX9_isGood_162 ?_
        refine lv_iload_n hx hb dX9_isGood_165 rfl (lv_at hl.1 1 rfl) ?_
        obtain ⟨v9, e9, hf⟩ := ob hf
        refine zw_aI hx hb hW e9 dX9_isGood_166 ?_
        refine lv_icmp_ge (tgt := 174) hx hb dX9_isGood_167 (by decide) (fun c10 => ?_) (fun c10 => ?_)
        · have hf := oift c10 hf
          refine lv_iconst (v := 0) hx hb dX9_isGood_174 (by decide) ?_
          obtain ⟨rfl, rfl⟩ := oret hf
          exact zw_zreturn F (by decide) hW hS dX9_isGood_175
        · have hf := oiff c10 hf
          refine lv_iconst (v := 1) hx hb dX9_isGood_170 (by decide) ?_
          refine lv_goto (tgt := 175) hx hb dX9_isGood_171 (by decide) ?_
          obtain ⟨rfl, rfl⟩ := oret hf
          exact zw_zreturn F (by decide) hW hS dX9_isGood_175
    · have hf := oiff c6 hf
      by_cases c11 : a2 = 26
      · have hf := oift c11 hf
        refine zl_tab hx hb (26) (175) (tgt := 176) dX9_isGood_1 (by rw [c11]; decide) (by decide) ?_
        refine zw_aload_n hx hb dX9_isGood_176 rfl (lv_at hl.1 0 rfl) ?_
        refine lv_iload_n hx hb dX9_isGood_177 rfl (lv_at hl.1 3 rfl) ?_
        obtain ⟨a912, j12, hf⟩ := ob hf
        obtain ⟨q12, e12, hf⟩ := ob hf
        refine zw_callV (rest := []) (n := 1) F (kX9_isClass (r := q12.1) (h' := q12.2) l D base a0 a3 h e12) 9 rfl (by decide) j12 wd_691 wd_693 ws_24 wd_6 wd_694 (by decide +kernel) ⟨by decide, by decide⟩ hW hS rfl hl.1.1 (by decide) rfl ⟨(by decide), (by decide)⟩ dX9_isGood_178 (fun H locs hW hS => ?_)
        refine W.eq (g2 := F0 m 181 ls [.int q12.1]) rfl ?_
        obtain ⟨hz, rfl, rfl⟩ := oretz hf
        exact zw_zreturn F hz hW hS dX9_isGood_181
      · have hf := oiff c11 hf
        by_cases c13 : a2 = 27
        · have hf := oift c13 hf
          refine zl_tab hx hb (27) (181) (tgt := 182) dX9_isGood_1 (by rw [c13]; decide) (by decide) ?_
          refine zw_aload_n hx hb dX9_isGood_182 rfl (lv_at hl.1 0 rfl) ?_
          refine lv_iload_n hx hb dX9_isGood_183 rfl (lv_at hl.1 3 rfl) ?_
          obtain ⟨a914, j14, hf⟩ := ob hf
          obtain ⟨q14, e14, hf⟩ := ob hf
          refine zw_callV (rest := []) (n := 1) F (kX9_isClass (r := q14.1) (h' := q14.2) l D base a0 a3 h e14) 9 rfl (by decide) j14 wd_691 wd_693 ws_24 wd_6 wd_694 (by decide +kernel) ⟨by decide, by decide⟩ hW hS rfl hl.1.1 (by decide) rfl ⟨(by decide), (by decide)⟩ dX9_isGood_184 (fun H locs hW hS => ?_)
          refine W.eq (g2 := F0 m 187 ls [.int q14.1]) rfl ?_
          refine lv_if_eq (tgt := 210) hx hb dX9_isGood_187 (by decide) (fun c15 => ?_) (fun c15 => ?_)
          · have hf := oift c15 hf
            refine lv_iconst (v := 0) hx hb dX9_isGood_210 (by decide) ?_
            obtain ⟨rfl, rfl⟩ := oret hf
            exact zw_zreturn F (by decide) hW hS dX9_isGood_211
          · have hf := oiff c15 hf
            refine lv_iload hx hb dX9_isGood_190 (lv_at hl.1 4 rfl) ?_
            refine lv_if_lt (tgt := 210) hx hb dX9_isGood_192 (by decide) (fun c16 => ?_) (fun c16 => ?_)
            · have hf := oift c16 hf
              refine lv_iconst (v := 0) hx hb dX9_isGood_210 (by decide) ?_
              obtain ⟨rfl, rfl⟩ := oret hf
              exact zw_zreturn F (by decide) hW hS dX9_isGood_211
            · have hf := oiff c16 hf
              refine lv_iload hx hb dX9_isGood_195 (lv_at hl.1 4 rfl) ?_
              refine zw_aload_n hx hb dX9_isGood_197 rfl (lv_at hl.1 0 rfl) ?_
              obtain ⟨v17, e17, hf⟩ := ob hf
              refine zw_gR hx hb hts inX9 hown hW (ci := 9) rfl (by decide) 3 (by decide) (hts _ wd_592) e17 (fun _ _ => rfl) dX9_isGood_198 ?_
              refine lv_iload_n hx hb dX9_isGood_201 rfl (lv_at hl.1 3 rfl) ?_
              obtain ⟨v18, e18, hf⟩ := ob hf
              refine zw_aI hx hb hW e18 dX9_isGood_202 ?_
              refine lv_icmp_ge (tgt := 210) hx hb dX9_isGood_203 (by decide) (fun c19 => ?_) (fun c19 => ?_)
              · have hf := oift c19 hf
                refine lv_iconst (v := 0) hx hb dX9_isGood_210 (by decide) ?_
                obtain ⟨rfl, rfl⟩ := oret hf
                exact zw_zreturn F (by decide) hW hS dX9_isGood_211
              · have hf := oiff c19 hf
                refine lv_iconst (v := 1) hx hb dX9_isGood_206 (by decide) ?_
                refine lv_goto (tgt := 211) hx hb dX9_isGood_207 (by decide) ?_
                obtain ⟨rfl, rfl⟩ := oret hf
                exact zw_zreturn F (by decide) hW hS dX9_isGood_211
        · have hf := oiff c13 hf
          by_cases c20 : a2 = 28
          · have hf := oift c20 hf
            refine zl_tab hx hb (28) (181) (tgt := 182) dX9_isGood_1 (by rw [c20]; decide) (by decide) ?_
            refine zw_aload_n hx hb dX9_isGood_182 rfl (lv_at hl.1 0 rfl) ?_
            refine lv_iload_n hx hb dX9_isGood_183 rfl (lv_at hl.1 3 rfl) ?_
            obtain ⟨a921, j21, hf⟩ := ob hf
            obtain ⟨q21, e21, hf⟩ := ob hf
            refine zw_callV (rest := []) (n := 1) F (kX9_isClass (r := q21.1) (h' := q21.2) l D base a0 a3 h e21) 9 rfl (by decide) j21 wd_691 wd_693 ws_24 wd_6 wd_694 (by decide +kernel) ⟨by decide, by decide⟩ hW hS rfl hl.1.1 (by decide) rfl ⟨(by decide), (by decide)⟩ dX9_isGood_184 (fun H locs hW hS => ?_)
            refine W.eq (g2 := F0 m 187 ls [.int q21.1]) rfl ?_
            refine lv_if_eq (tgt := 210) hx hb dX9_isGood_187 (by decide) (fun c22 => ?_) (fun c22 => ?_)
            · have hf := oift c22 hf
              refine lv_iconst (v := 0) hx hb dX9_isGood_210 (by decide) ?_
              obtain ⟨rfl, rfl⟩ := oret hf
              exact zw_zreturn F (by decide) hW hS dX9_isGood_211
            · have hf := oiff c22 hf
              refine lv_iload hx hb dX9_isGood_190 (lv_at hl.1 4 rfl) ?_
              refine lv_if_lt (tgt := 210) hx hb dX9_isGood_192 (by decide) (fun c23 => ?_) (fun c23 => ?_)
              · have hf := oift c23 hf
                refine lv_iconst (v := 0) hx hb dX9_isGood_210 (by decide) ?_
                obtain ⟨rfl, rfl⟩ := oret hf
                exact zw_zreturn F (by decide) hW hS dX9_isGood_211
              · have hf := oiff c23 hf
                refine lv_iload hx hb dX9_isGood_195 (lv_at hl.1 4 rfl) ?_
                refine zw_aload_n hx hb dX9_isGood_197 rfl (lv_at hl.1 0 rfl) ?_
                obtain ⟨v24, e24, hf⟩ := ob hf
                refine zw_gR hx hb hts inX9 hown hW (ci := 9) rfl (by decide) 3 (by decide) (hts _ wd_592) e24 (fun _ _ => rfl) dX9_isGood_198 ?_
                refine lv_iload_n hx hb dX9_isGood_201 rfl (lv_at hl.1 3 rfl) ?_
                obtain ⟨v25, e25, hf⟩ := ob hf
                refine zw_aI hx hb hW e25 dX9_isGood_202 ?_
                refine lv_icmp_ge (tgt := 210) hx hb dX9_isGood_203 (by decide) (fun c26 => ?_) (fun c26 => ?_)
                · have hf := oift c26 hf
                  refine lv_iconst (v := 0) hx hb dX9_isGood_210 (by decide) ?_
                  obtain ⟨rfl, rfl⟩ := oret hf
                  exact zw_zreturn F (by decide) hW hS dX9_isGood_211
                · have hf := oiff c26 hf
                  refine lv_iconst (v := 1) hx hb dX9_isGood_206 (by decide) ?_
                  refine lv_goto (tgt := 211) hx hb dX9_isGood_207 (by decide) ?_
                  obtain ⟨rfl, rfl⟩ := oret hf
                  exact zw_zreturn F (by decide) hW hS dX9_isGood_211
          · have hf := oiff c20 hf
            by_cases c27 : a2 = 29
            · have hf := oift c27 hf
              refine zl_tab hx hb (29) (175) (tgt := 176) dX9_isGood_1 (by rw [c27]; decide) (by decide) ?_
              refine zw_aload_n hx hb dX9_isGood_176 rfl (lv_at hl.1 0 rfl) ?_
              refine lv_iload_n hx hb dX9_isGood_177 rfl (lv_at hl.1 3 rfl) ?_
              obtain ⟨a928, j28, hf⟩ := ob hf
              obtain ⟨q28, e28, hf⟩ := ob hf
              refine zw_callV (rest := []) (n := 1) F (kX9_isClass (r := q28.1) (h' := q28.2) l D base a0 a3 h e28) 9 rfl (by decide) j28 wd_691 wd_693 ws_24 wd_6 wd_694 (by decide +kernel) ⟨by decide, by decide⟩ hW hS rfl hl.1.1 (by decide) rfl ⟨(by decide), (by decide)⟩ dX9_isGood_178 (fun H locs hW hS => ?_)
              refine W.eq (g2 := F0 m 181 ls [.int q28.1]) rfl ?_
              obtain ⟨hz, rfl, rfl⟩ := oretz hf
              exact zw_zreturn F hz hW hS dX9_isGood_181
            · have hf := oiff c27 hf
              by_cases c29 : a2 = 30
              · have hf := oift c29 hf
                refine zl_tab hx hb (30) (175) (tgt := 176) dX9_isGood_1 (by rw [c29]; decide) (by decide) ?_
                refine zw_aload_n hx hb dX9_isGood_176 rfl (lv_at hl.1 0 rfl) ?_
                refine lv_iload_n hx hb dX9_isGood_177 rfl (lv_at hl.1 3 rfl) ?_
                obtain ⟨a930, j30, hf⟩ := ob hf
                obtain ⟨q30, e30, hf⟩ := ob hf
                refine zw_callV (rest := []) (n := 1) F (kX9_isClass (r := q30.1) (h' := q30.2) l D base a0 a3 h e30) 9 rfl (by decide) j30 wd_691 wd_693 ws_24 wd_6 wd_694 (by decide +kernel) ⟨by decide, by decide⟩ hW hS rfl hl.1.1 (by decide) rfl ⟨(by decide), (by decide)⟩ dX9_isGood_178 (fun H locs hW hS => ?_)
                refine W.eq (g2 := F0 m 181 ls [.int q30.1]) rfl ?_
                obtain ⟨hz, rfl, rfl⟩ := oretz hf
                exact zw_zreturn F hz hW hS dX9_isGood_181
              · have hf := oiff c29 hf
                by_cases c31 : a2 = 31
                · have hf := oift c31 hf
                  refine zl_tab hx hb (31) (211) (tgt := 212) dX9_isGood_1 (by rw [c31]; decide) (by decide) ?_
                  refine lv_iload_n hx hb dX9_isGood_212 rfl (lv_at hl.1 3 rfl) ?_
                  refine lv_if_lt (tgt := 228) hx hb dX9_isGood_213 (by decide) (fun c32 => ?_) (fun c32 => ?_)
                  · have hf := oift c32 hf
                    refine lv_iconst (v := 0) hx hb dX9_isGood_228 (by decide) ?_
                    obtain ⟨rfl, rfl⟩ := oret hf
                    exact zw_zreturn F (by decide) hW hS dX9_isGood_229
                  · have hf := oiff c32 hf
                    refine lv_iload_n hx hb dX9_isGood_216 rfl (lv_at hl.1 3 rfl) ?_
                    refine zw_aload_n hx hb dX9_isGood_217 rfl (lv_at hl.1 0 rfl) ?_
                    obtain ⟨v33, e33, hf⟩ := ob hf
                    refine zw_gI hx hb hts inX9 hown hW (ci := 9) rfl (by decide) 0 (by decide) (hts _ wd_589) e33 (fun _ _ => rfl) dX9_isGood_218 ?_
                    refine lv_icmp_gt (tgt := 228) hx hb dX9_isGood_221 (by decide) (fun c34 => ?_) (fun c34 => ?_)
                    · have hf := oift c34 hf
                      refine lv_iconst (v := 0) hx hb dX9_isGood_228 (by decide) ?_
                      obtain ⟨rfl, rfl⟩ := oret hf
                      exact zw_zreturn F (by decide) hW hS dX9_isGood_229
                    · have hf := oiff c34 hf
                      refine lv_iconst (v := 1) hx hb dX9_isGood_224 (by decide) ?_
                      refine lv_goto (tgt := 229) hx hb dX9_isGood_225 (by decide) ?_
                      obtain ⟨rfl, rfl⟩ := oret hf
                      exact zw_zreturn F (by decide) hW hS dX9_isGood_229
                · have hf := oiff c31 hf
                  by_cases c35 : a2 = 35
                  · have hf := oift c35 hf
                    refine zl_tab hx hb (35) (229) (tgt := 230) dX9_isGood_1 (by rw [c35]; decide) (by decide) ?_
                    refine zw_aload_n hx hb dX9_isGood_230 rfl (lv_at hl.1 0 rfl) ?_
                    refine lv_iload_n hx hb dX9_isGood_231 rfl (lv_at hl.1 3 rfl) ?_
                    obtain ⟨a936, j36, hf⟩ := ob hf
                    obtain ⟨q36, e36, hf⟩ := ob hf
                    refine zw_callV (rest := []) (n := 1) F (kX9_isMethod (r := q36.1) (h' := q36.2) l D base a0 a3 h e36) 9 rfl (by decide) j36 wd_711 wd_713 ws_26 wd_6 wd_714 (by decide +kernel) ⟨by decide, by decide⟩ hW hS rfl hl.1.1 (by decide) rfl ⟨(by decide), (by decide)⟩ dX9_isGood_232 (fun H locs hW hS => ?_)
                    refine W.eq (g2 := F0 m 235 ls [.int q36.1]) rfl ?_
                    obtain ⟨hz, rfl, rfl⟩ := oretz hf
                    exact zw_zreturn F hz hW hS dX9_isGood_235
                  · have hf := oiff c35 hf
                    by_cases c37 : a2 = 36
                    · have hf := oift c37 hf
                      refine zl_tab hx hb (36) (235) (tgt := 236) dX9_isGood_1 (by rw [c37]; decide) (by decide) ?_
                      refine zw_aload_n hx hb dX9_isGood_236 rfl (lv_at hl.1 0 rfl) ?_
                      refine lv_iload_n hx hb dX9_isGood_237 rfl (lv_at hl.1 3 rfl) ?_
                      obtain ⟨a938, j38, hf⟩ := ob hf
                      obtain ⟨q38, e38, hf⟩ := ob hf
                      refine zw_callV (rest := []) (n := 1) F (kX9_isClass (r := q38.1) (h' := q38.2) l D base a0 a3 h e38) 9 rfl (by decide) j38 wd_691 wd_693 ws_24 wd_6 wd_694 (by decide +kernel) ⟨by decide, by decide⟩ hW hS rfl hl.1.1 (by decide) rfl ⟨(by decide), (by decide)⟩ dX9_isGood_238 (fun H locs hW hS => ?_)
                      refine W.eq (g2 := F0 m 241 ls [.int q38.1]) rfl ?_
                      refine lv_if_eq (tgt := 275) hx hb dX9_isGood_241 (by decide) (fun c39 => ?_) (fun c39 => ?_)
                      · have hf := oift c39 hf
                        refine lv_iconst (v := 0) hx hb dX9_isGood_275 (by decide) ?_
                        obtain ⟨rfl, rfl⟩ := oret hf
                        exact zw_zreturn F (by decide) hW hS dX9_isGood_276
                      · have hf := oiff c39 hf
                        refine lv_iload hx hb dX9_isGood_244 (lv_at hl.1 4 rfl) ?_
                        refine lv_if_lt (tgt := 275) hx hb dX9_isGood_246 (by decide) (fun c40 => ?_) (fun c40 => ?_)
                        · have hf := oift c40 hf
                          refine lv_iconst (v := 0) hx hb dX9_isGood_275 (by decide) ?_
                          obtain ⟨rfl, rfl⟩ := oret hf
                          exact zw_zreturn F (by decide) hW hS dX9_isGood_276
                        · have hf := oiff c40 hf
                          refine lv_iload hx hb dX9_isGood_249 (lv_at hl.1 4 rfl) ?_
                          refine lv_bipush (v := 16) hx hb dX9_isGood_251 (by decide) ?_
                          refine lv_icmp_ge (tgt := 275) hx hb dX9_isGood_253 (by decide) (fun c41 => ?_) (fun c41 => ?_)
                          · have hf := oift c41 hf
                            refine lv_iconst (v := 0) hx hb dX9_isGood_275 (by decide) ?_
                            obtain ⟨rfl, rfl⟩ := oret hf
                            exact zw_zreturn F (by decide) hW hS dX9_isGood_276
                          · have hf := oiff c41 hf
                            refine zw_aload_n hx hb dX9_isGood_256 rfl (lv_at hl.1 0 rfl) ?_
                            obtain ⟨v42, e42, hf⟩ := ob hf
                            refine zw_gR hx hb hts inX9 hown hW (ci := 9) rfl (by decide) 5 (by decide) (hts _ wd_594) e42 (fun _ _ => rfl) dX9_isGood_257 ?_
                            refine lv_bipush (v := 16) hx hb dX9_isGood_260 (by decide) ?_
                            refine lv_iload_n hx hb dX9_isGood_262 rfl (lv_at hl.1 3 rfl) ?_
                            refine lv_imul hx hb dX9_isGood_263 ?_
                            refine lv_iload hx hb dX9_isGood_264 (lv_at hl.1 4 rfl) ?_
                            refine lv_iadd hx hb dX9_isGood_266 ?_
                            obtain ⟨v43, e43, hf⟩ := ob hf
                            refine zw_aI hx hb hW e43 dX9_isGood_267 ?_
                            refine lv_if_lt (tgt := 275) hx hb dX9_isGood_268 (by decide) (fun c44 => ?_) (fun c44 => ?_)
                            · have hf := oift c44 hf
                              refine lv_iconst (v := 0) hx hb dX9_isGood_275 (by decide) ?_
                              obtain ⟨rfl, rfl⟩ := oret hf
                              exact zw_zreturn F (by decide) hW hS dX9_isGood_276
                            · have hf := oiff c44 hf
                              refine lv_iconst (v := 1) hx hb dX9_isGood_271 (by decide) ?_
                              refine lv_goto (tgt := 276) hx hb dX9_isGood_272 (by decide) ?_
                              obtain ⟨rfl, rfl⟩ := oret hf
                              exact zw_zreturn F (by decide) hW hS dX9_isGood_276
                    · have hf := oiff c37 hf
                      refine zl_tabD hx hb [2, 3, 26, 27, 28, 29, 30, 31, 35, 36] (tgt := 277) dX9_isGood_1 (fun k hk => by simp only [List.mem_cons, List.not_mem_nil, or_false] at hk; rcases hk with rfl | rfl | rfl | rfl | rfl | rfl | rfl | rfl | rfl | rfl <;> first | exact lv_neT c1 (by decide) | exact lv_neT c6 (by decide) | exact lv_neT c11 (by decide) | exact lv_neT c13 (by decide) | exact lv_neT c20 (by decide) | exact lv_neT c27 (by decide) | exact lv_neT c29 (by decide) | exact lv_neT c31 (by decide) | exact lv_neT c35 (by decide) | exact lv_neT c37 (by decide)) (by decide) ?_
                      refine lv_iload_n hx hb dX9_isGood_277 rfl (lv_at hl.1 2 rfl) ?_
                      refine lv_bipush (v := 19) hx hb dX9_isGood_278 (by decide) ?_
                      refine lv_icmp_lt (tgt := 300) hx hb dX9_isGood_280 (by decide) (fun c45 => ?_) (fun c45 => ?_)
                      · have hf := oift c45 hf
                        exact kX9_isGood_b300 F h hf H locs ls (z_sub hl [] rfl) hW hS
                      · have hf := oiff c45 hf
                        refine lv_iload_n hx hb dX9_isGood_283 rfl (lv_at hl.1 2 rfl) ?_
                        refine lv_bipush (v := 25) hx hb dX9_isGood_284 (by decide) ?_
                        refine lv_icmp_gt (tgt := 300) hx hb dX9_isGood_286 (by decide) (fun c46 => ?_) (fun c46 => ?_)
                        · have hf := oift c46 hf
                          exact kX9_isGood_b300 F h hf H locs ls (z_sub hl [] rfl) hW hS
                        · have hf := oiff c46 hf
                          refine lv_iload_n hx hb dX9_isGood_289 rfl (lv_at hl.1 3 rfl) ?_
                          refine lv_if_lt (tgt := 304) hx hb dX9_isGood_290 (by decide) (fun c47 => ?_) (fun c47 => ?_)
                          · have hf := oift c47 hf
                            refine lv_iconst (v := 0) hx hb dX9_isGood_304 (by decide) ?_
                            obtain ⟨rfl, rfl⟩ := oret hf
                            exact zw_zreturn F (by decide) hW hS dX9_isGood_305
                          · have hf := oiff c47 hf
                            refine lv_iload_n hx hb dX9_isGood_293 rfl (lv_at hl.1 3 rfl) ?_
                            refine lv_sipush (v := 200) hx hb dX9_isGood_294 (by decide) ?_
                            refine lv_icmp_ge (tgt := 304) hx hb dX9_isGood_297 (by decide) (fun c48 => ?_) (fun c48 => ?_)
                            · have hf := oift c48 hf
                              refine lv_iconst (v := 0) hx hb dX9_isGood_304 (by decide) ?_
                              obtain ⟨rfl, rfl⟩ := oret hf
                              exact zw_zreturn F (by decide) hW hS dX9_isGood_305
                            · have hf := oiff c48 hf
                              exact kX9_isGood_b300 F h hf H locs ls (z_sub hl [] rfl) hW hS
set_option maxRecDepth 100000 in
set_option maxHeartbeats 4000000 in
theorem kX9_isGood (l : Launch) (D : va_G) (base : Nat) (a0 : Option Nat) (a1 : Int32) (a2 : Int32) (a3 : Int32) (a4 : Int32) (h : zH) {r : Int32} {h' : zH} (hf : fX9_isGood a0 a1 a2 a3 a4 h = some (r, h')) : zMet l D base yX9_isGood cX9_isGood 5 (some .boolean) rmX9_isGood h [va_rf a0, .int a1, .int a2, .int a3, .int a4] (some (.int r)) h' :=
  zMet.of (by decide +kernel) (fun v hv => by simp only [List.mem_cons, List.not_mem_nil, or_false] at hv; rcases hv with rfl | rfl | rfl | rfl | rfl <;> first | rfl | exact va_rf_cat _) (Nat.le_of_ble_eq_true rfl) (fun p e s m args below meth c ls F hi hl hW hS => kX9_isGood_w F a0 a1 a2 a3 a4 h hf s.heap [] ls hl hW hS)
set_option maxRecDepth 100000 in
set_option maxHeartbeats 4000000 in
theorem kX9_op_w (F : zF p s m args meth c cX9_op 6 RX9 (some .int)) {r : Int32} {h' : zH} (a0 : Option Nat) (a1 : Int32) (a2 : Int32) (a3 : Int32) (a4 : Int32) (h : zH) (hf : fX9_op a0 a1 a2 a3 a4 h = some (r, h')) (H : Heap) (locs : List Loc) (ls : Array Slot) (hl : zhas ls 6 [(0, va_rf a0), (1, .int a1), (2, .int a2), (3, .int a3), (4, .int a4)]) (hW : z_W D base s h H) (hS : va_S (zA base) s.heap H locs) : W p l e rmX9_op s m args below meth c H locs 0 0 (MQ below (zQ D base (some (.int r)) h') args s rmX9_op.cells rmX9_op.slots (zA base)) (F0 m 0 ls []) := by
  obtain ⟨hx, hb, hml, hown, hts, hret, hlk, hZ⟩ := id F
  unfold fX9_op at hf
  refine zw_aload_n hx hb dX9_op_0 rfl (lv_at hl.1 0 rfl) ?_
  refine lv_iload_n hx hb dX9_op_1 rfl (lv_at hl.1 1 rfl) ?_
  obtain ⟨a901, j1, hf⟩ := ob hf
  obtain ⟨q1, e1, hf⟩ := ob hf
  refine zw_callV (rest := []) (n := 1) F (kX9_isMethod (r := q1.1) (h' := q1.2) l D base a0 a1 h e1) 9 rfl (by decide) j1 wd_711 wd_713 ws_26 wd_6 wd_714 (by decide +kernel) ⟨by decide, by decide⟩ hW hS rfl hl.1.1 (by decide) rfl ⟨(by decide), (by decide)⟩ dX9_op_2 (fun H locs hW hS => ?_)
  refine W.eq (g2 := F0 m 5 ls [.int q1.1]) rfl ?_
  refine lv_if_eq (tgt := 30) hx hb dX9_op_5 (by decide) (fun c2 => ?_) (fun c2 => ?_)
  · have hf := oift c2 hf
    refine lv_iconst (v := (-1)) hx hb dX9_op_30 (by decide) ?_
    obtain ⟨rfl, rfl⟩ := oret hf
    exact zw_ireturn F hW hS dX9_op_31
  · have hf := oiff c2 hf
    refine lv_iload_n hx hb dX9_op_8 rfl (lv_at hl.1 2 rfl) ?_
    refine lv_if_lt (tgt := 30) hx hb dX9_op_9 (by decide) (fun c3 => ?_) (fun c3 => ?_)
    · have hf := oift c3 hf
      refine lv_iconst (v := (-1)) hx hb dX9_op_30 (by decide) ?_
      obtain ⟨rfl, rfl⟩ := oret hf
      exact zw_ireturn F hW hS dX9_op_31
    · have hf := oiff c3 hf
      refine lv_iload_n hx hb dX9_op_12 rfl (lv_at hl.1 2 rfl) ?_
      refine lv_bipush (v := 41) hx hb dX9_op_13 (by decide) ?_
      refine lv_icmp_gt (tgt := 30) hx hb dX9_op_15 (by decide) (fun c4 => ?_) (fun c4 => ?_)
      · have hf := oift c4 hf
        refine lv_iconst (v := (-1)) hx hb dX9_op_30 (by decide) ?_
        obtain ⟨rfl, rfl⟩ := oret hf
        exact zw_ireturn F hW hS dX9_op_31
      · have hf := oiff c4 hf
        refine zw_aload_n hx hb dX9_op_18 rfl (lv_at hl.1 0 rfl) ?_
        refine lv_iload_n hx hb dX9_op_19 rfl (lv_at hl.1 1 rfl) ?_
        refine lv_iload_n hx hb dX9_op_20 rfl (lv_at hl.1 2 rfl) ?_
        refine lv_iload_n hx hb dX9_op_21 rfl (lv_at hl.1 3 rfl) ?_
        refine lv_iload hx hb dX9_op_22 (lv_at hl.1 4 rfl) ?_
        obtain ⟨a905, j5, hf⟩ := ob hf
        obtain ⟨q5, e5, hf⟩ := ob hf
        refine zw_callV (rest := []) (n := 4) F (kX9_isGood (r := q5.1) (h' := q5.2) l D base a0 a1 a2 a3 a4 q1.2 e5) 9 rfl (by decide) j5 wd_727 wd_729 ws_28 wd_6 wd_730 (by decide +kernel) ⟨by decide, by decide⟩ hW hS rfl hl.1.1 (by decide) rfl ⟨(by decide), (by decide)⟩ dX9_op_24 (fun H locs hW hS => ?_)
        refine W.eq (g2 := F0 m 27 ls [.int q5.1]) rfl ?_
        refine lv_if_ne (tgt := 32) hx hb dX9_op_27 (by decide) (fun c6 => ?_) (fun c6 => ?_)
        · have hf := oiff c6 hf
          refine zw_aload_n hx hb dX9_op_32 rfl (lv_at hl.1 0 rfl) ?_
          obtain ⟨v7, e7, hf⟩ := ob hf
          refine zw_gR hx hb hts inX9 hown hW (ci := 9) rfl (by decide) 14 (by decide) (hts _ wd_603) e7 (fun _ _ => rfl) dX9_op_33 ?_
          refine lv_iload_n hx hb dX9_op_36 rfl (lv_at hl.1 1 rfl) ?_
          obtain ⟨v8, e8, hf⟩ := ob hf
          refine zw_aI hx hb hW e8 dX9_op_37 ?_
          refine lv_sipush (v := 200) hx hb dX9_op_38 (by decide) ?_
          refine lv_icmp_ne (tgt := 47) hx hb dX9_op_41 (by decide) (fun c9 => ?_) (fun c9 => ?_)
          · have hf := oiff c9 hf
            refine lv_sipush (v := 200) hx hb dX9_op_47 (by decide) ?_
            refine lv_iload_n hx hb dX9_op_50 rfl (lv_at hl.1 1 rfl) ?_
            refine lv_imul hx hb dX9_op_51 ?_
            refine zw_aload_n hx hb dX9_op_52 rfl (lv_at hl.1 0 rfl) ?_
            obtain ⟨v10, e10, hf⟩ := ob hf
            refine zw_gR hx hb hts inX9 hown hW (ci := 9) rfl (by decide) 14 (by decide) (hts _ wd_603) e10 (fun _ _ => rfl) dX9_op_53 ?_
            refine lv_iload_n hx hb dX9_op_56 rfl (lv_at hl.1 1 rfl) ?_
            obtain ⟨v11, e11, hf⟩ := ob hf
            refine zw_aI hx hb hW e11 dX9_op_57 ?_
            refine lv_iadd hx hb dX9_op_58 ?_
            refine zl_istore (lv' := [(5, .int ((200 * a1) + v11)), (0, va_rf a0), (1, .int a1), (2, .int a2), (3, .int a3), (4, .int a4)]) hx hb dX9_op_59 hl (by decide) rfl (fun ls hl => ?_)
            refine zw_aload_n hx hb dX9_op_61 rfl (lv_at hl.1 1 rfl) ?_
            obtain ⟨v12, e12, hf⟩ := ob hf
            refine zw_gR hx hb hts inX9 hown hW (ci := 9) rfl (by decide) 15 (by decide) (hts _ wd_604) e12 (fun _ _ => rfl) dX9_op_62 ?_
            refine lv_iload hx hb dX9_op_65 (lv_at hl.1 0 rfl) ?_
            refine lv_iload_n hx hb dX9_op_67 rfl (lv_at hl.1 3 rfl) ?_
            obtain ⟨h13, e13, hf⟩ := ob hf
            refine zw_sI hx hb hW hS e13 dX9_op_68 (fun H locs hW hS => ?_)
            refine zw_aload_n hx hb dX9_op_69 rfl (lv_at hl.1 1 rfl) ?_
            obtain ⟨v14, e14, hf⟩ := ob hf
            refine zw_gR hx hb hts inX9 hown hW (ci := 9) rfl (by decide) 16 (by decide) (hts _ wd_605) e14 (fun _ _ => rfl) dX9_op_70 ?_
            refine lv_iload hx hb dX9_op_73 (lv_at hl.1 0 rfl) ?_
            refine lv_iload_n hx hb dX9_op_75 rfl (lv_at hl.1 4 rfl) ?_
            obtain ⟨h15, e15, hf⟩ := ob hf
            refine zw_sI hx hb hW hS e15 dX9_op_76 (fun H locs hW hS => ?_)
            refine zw_aload_n hx hb dX9_op_77 rfl (lv_at hl.1 1 rfl) ?_
            obtain ⟨v16, e16, hf⟩ := ob hf
            refine zw_gR hx hb hts inX9 hown hW (ci := 9) rfl (by decide) 17 (by decide) (hts _ wd_606) e16 (fun _ _ => rfl) dX9_op_78 ?_
            refine lv_iload hx hb dX9_op_81 (lv_at hl.1 0 rfl) ?_
            refine lv_iload hx hb dX9_op_83 (lv_at hl.1 5 rfl) ?_
            obtain ⟨h17, e17, hf⟩ := ob hf
            refine zw_sI hx hb hW hS e17 dX9_op_85 (fun H locs hW hS => ?_)
            refine zw_aload_n hx hb dX9_op_86 rfl (lv_at hl.1 1 rfl) ?_
            obtain ⟨v18, e18, hf⟩ := ob hf
            refine zw_gR hx hb hts inX9 hown hW (ci := 9) rfl (by decide) 14 (by decide) (hts _ wd_603) e18 (fun _ _ => rfl) dX9_op_87 ?_
            refine lv_iload_n hx hb dX9_op_90 rfl (lv_at hl.1 2 rfl) ?_
            refine lv_dup2_11 hx hb dX9_op_91 rfl (va_rf_cat _) ?_
            obtain ⟨v19, e19, hf⟩ := ob hf
            refine zw_aI hx hb hW e19 dX9_op_92 ?_
            refine lv_iconst (v := 1) hx hb dX9_op_93 (by decide) ?_
            refine lv_iadd hx hb dX9_op_94 ?_
            obtain ⟨h20, e20, hf⟩ := ob hf
            refine zw_sI hx hb hW hS e20 dX9_op_95 (fun H locs hW hS => ?_)
            refine zw_aload_n hx hb dX9_op_96 rfl (lv_at hl.1 1 rfl) ?_
            obtain ⟨v21, e21, hf⟩ := ob hf
            refine zw_gR hx hb hts inX9 hown hW (ci := 9) rfl (by decide) 23 (by decide) (hts _ wd_612) e21 (fun _ _ => rfl) dX9_op_97 ?_
            refine lv_iload_n hx hb dX9_op_100 rfl (lv_at hl.1 2 rfl) ?_
            refine lv_iconst (v := 0) hx hb dX9_op_101 (by decide) ?_
            obtain ⟨h22, e22, hf⟩ := ob hf
            refine zw_sZ hx hb hW hS e22 dX9_op_102 (fun H locs hW hS => ?_)
            refine zw_aload_n hx hb dX9_op_103 rfl (lv_at hl.1 1 rfl) ?_
            obtain ⟨v23, e23, hf⟩ := ob hf
            refine zw_gR hx hb hts inX9 hown hW (ci := 9) rfl (by decide) 14 (by decide) (hts _ wd_603) e23 (fun _ _ => rfl) dX9_op_104 ?_
            refine lv_iload_n hx hb dX9_op_107 rfl (lv_at hl.1 2 rfl) ?_
            obtain ⟨v24, e24, hf⟩ := ob hf
            refine zw_aI hx hb hW e24 dX9_op_108 ?_
            refine lv_iconst (v := 1) hx hb dX9_op_109 (by decide) ?_
            refine lv_isub hx hb dX9_op_110 ?_
            obtain ⟨rfl, rfl⟩ := oret hf
            exact zw_ireturn F hW hS dX9_op_111
          · have hf := oift c9 hf
            refine lv_bipush (v := (-2)) hx hb dX9_op_44 (by decide) ?_
            obtain ⟨rfl, rfl⟩ := oret hf
            exact zw_ireturn F hW hS dX9_op_46
        · have hf := oift c6 hf
          refine lv_iconst (v := (-1)) hx hb dX9_op_30 (by decide) ?_
          obtain ⟨rfl, rfl⟩ := oret hf
          exact zw_ireturn F hW hS dX9_op_31
set_option maxRecDepth 100000 in
set_option maxHeartbeats 4000000 in
theorem kX9_op (l : Launch) (D : va_G) (base : Nat) (a0 : Option Nat) (a1 : Int32) (a2 : Int32) (a3 : Int32) (a4 : Int32) (h : zH) {r : Int32} {h' : zH} (hf : fX9_op a0 a1 a2 a3 a4 h = some (r, h')) : zMet l D base yX9_op cX9_op 6 (some .int) rmX9_op h [va_rf a0, .int a1, .int a2, .int a3, .int a4] (some (.int r)) h' :=
  zMet.of (by decide +kernel) (fun v hv => by simp only [List.mem_cons, List.not_mem_nil, or_false] at hv; rcases hv with rfl | rfl | rfl | rfl | rfl <;> first | rfl | exact va_rf_cat _) (Nat.le_of_ble_eq_true rfl) (fun p e s m args below meth c ls F hi hl hW hS => kX9_op_w F a0 a1 a2 a3 a4 h hf s.heap [] ls hl hW hS)
set_option maxRecDepth 100000 in
set_option maxHeartbeats 4000000 in
theorem kX9_handler_w (F : zF p s m args meth c cX9_handler 7 RX9 (some .int)) {r : Int32} {h' : zH} (a0 : Option Nat) (a1 : Int32) (a2 : Int32) (a3 : Int32) (a4 : Int32) (a5 : Int32) (h : zH) (hf : fX9_handler a0 a1 a2 a3 a4 a5 h = some (r, h')) (H : Heap) (locs : List Loc) (ls : Array Slot) (hl : zhas ls 7 [(0, va_rf a0), (1, .int a1), (2, .int a2), (3, .int a3), (4, .int a4), (5, .int a5)]) (hW : z_W D base s h H) (hS : va_S (zA base) s.heap H locs) : W p l e rmX9_handler s m args below meth c H locs 0 0 (MQ below (zQ D base (some (.int r)) h') args s rmX9_handler.cells rmX9_handler.slots (zA base)) (F0 m 0 ls []) := by
  obtain ⟨hx, hb, hml, hown, hts, hret, hlk, hZ⟩ := id F
  unfold fX9_handler at hf
  refine zw_aload_n hx hb dX9_handler_0 rfl (lv_at hl.1 0 rfl) ?_
  refine lv_iload_n hx hb dX9_handler_1 rfl (lv_at hl.1 1 rfl) ?_
  obtain ⟨a901, j1, hf⟩ := ob hf
  obtain ⟨q1, e1, hf⟩ := ob hf
  refine zw_callV (rest := []) (n := 1) F (kX9_isMethod (r := q1.1) (h' := q1.2) l D base a0 a1 h e1) 9 rfl (by decide) j1 wd_711 wd_713 ws_26 wd_6 wd_714 (by decide +kernel) ⟨by decide, by decide⟩ hW hS rfl hl.1.1 (by decide) rfl ⟨(by decide), (by decide)⟩ dX9_handler_2 (fun H locs hW hS => ?_)
  refine W.eq (g2 := F0 m 5 ls [.int q1.1]) rfl ?_
  refine lv_if_eq (tgt := 46) hx hb dX9_handler_5 (by decide) (fun c2 => ?_) (fun c2 => ?_)
  · have hf := oift c2 hf
    refine lv_iconst (v := (-1)) hx hb dX9_handler_46 (by decide) ?_
    obtain ⟨rfl, rfl⟩ := oret hf
    exact zw_ireturn F hW hS dX9_handler_47
  · have hf := oiff c2 hf
    refine zw_aload_n hx hb dX9_handler_8 rfl (lv_at hl.1 0 rfl) ?_
    refine lv_iload hx hb dX9_handler_9 (lv_at hl.1 4 rfl) ?_
    obtain ⟨a903, j3, hf⟩ := ob hf
    obtain ⟨q3, e3, hf⟩ := ob hf
    refine zw_callV (rest := []) (n := 1) F (kX9_isClass (r := q3.1) (h' := q3.2) l D base a0 a4 q1.2 e3) 9 rfl (by decide) j3 wd_691 wd_693 ws_24 wd_6 wd_694 (by decide +kernel) ⟨by decide, by decide⟩ hW hS rfl hl.1.1 (by decide) rfl ⟨(by decide), (by decide)⟩ dX9_handler_11 (fun H locs hW hS => ?_)
    refine W.eq (g2 := F0 m 14 ls [.int q3.1]) rfl ?_
    refine lv_if_eq (tgt := 46) hx hb dX9_handler_14 (by decide) (fun c4 => ?_) (fun c4 => ?_)
    · have hf := oift c4 hf
      refine lv_iconst (v := (-1)) hx hb dX9_handler_46 (by decide) ?_
      obtain ⟨rfl, rfl⟩ := oret hf
      exact zw_ireturn F hW hS dX9_handler_47
    · have hf := oiff c4 hf
      refine lv_iload_n hx hb dX9_handler_17 rfl (lv_at hl.1 2 rfl) ?_
      refine lv_if_lt (tgt := 46) hx hb dX9_handler_18 (by decide) (fun c5 => ?_) (fun c5 => ?_)
      · have hf := oift c5 hf
        refine lv_iconst (v := (-1)) hx hb dX9_handler_46 (by decide) ?_
        obtain ⟨rfl, rfl⟩ := oret hf
        exact zw_ireturn F hW hS dX9_handler_47
      · have hf := oiff c5 hf
        refine lv_iload_n hx hb dX9_handler_21 rfl (lv_at hl.1 2 rfl) ?_
        refine lv_iload_n hx hb dX9_handler_22 rfl (lv_at hl.1 3 rfl) ?_
        refine lv_icmp_ge (tgt := 46) hx hb dX9_handler_23 (by decide) (fun c6 => ?_) (fun c6 => ?_)
        · have hf := oift c6 hf
          refine lv_iconst (v := (-1)) hx hb dX9_handler_46 (by decide) ?_
          obtain ⟨rfl, rfl⟩ := oret hf
          exact zw_ireturn F hW hS dX9_handler_47
        · have hf := oiff c6 hf
          refine lv_iload_n hx hb dX9_handler_26 rfl (lv_at hl.1 3 rfl) ?_
          refine lv_sipush (v := 200) hx hb dX9_handler_27 (by decide) ?_
          refine lv_icmp_gt (tgt := 46) hx hb dX9_handler_30 (by decide) (fun c7 => ?_) (fun c7 => ?_)
          · have hf := oift c7 hf
            refine lv_iconst (v := (-1)) hx hb dX9_handler_46 (by decide) ?_
            obtain ⟨rfl, rfl⟩ := oret hf
            exact zw_ireturn F hW hS dX9_handler_47
          · have hf := oiff c7 hf
            refine lv_iload hx hb dX9_handler_33 (lv_at hl.1 5 rfl) ?_
            refine lv_if_lt (tgt := 46) hx hb dX9_handler_35 (by decide) (fun c8 => ?_) (fun c8 => ?_)
            · have hf := oift c8 hf
              refine lv_iconst (v := (-1)) hx hb dX9_handler_46 (by decide) ?_
              obtain ⟨rfl, rfl⟩ := oret hf
              exact zw_ireturn F hW hS dX9_handler_47
            · have hf := oiff c8 hf
              refine lv_iload hx hb dX9_handler_38 (lv_at hl.1 5 rfl) ?_
              refine lv_sipush (v := 200) hx hb dX9_handler_40 (by decide) ?_
              refine lv_icmp_lt (tgt := 48) hx hb dX9_handler_43 (by decide) (fun c9 => ?_) (fun c9 => ?_)
              · have hf := oift c9 hf
                refine zw_aload_n hx hb dX9_handler_48 rfl (lv_at hl.1 0 rfl) ?_
                obtain ⟨v10, e10, hf⟩ := ob hf
                refine zw_gR hx hb hts inX9 hown hW (ci := 9) rfl (by decide) 18 (by decide) (hts _ wd_607) e10 (fun _ _ => rfl) dX9_handler_49 ?_
                refine lv_iload_n hx hb dX9_handler_52 rfl (lv_at hl.1 1 rfl) ?_
                obtain ⟨v11, e11, hf⟩ := ob hf
                refine zw_aI hx hb hW e11 dX9_handler_53 ?_
                refine lv_bipush (v := 8) hx hb dX9_handler_54 (by decide) ?_
                refine lv_icmp_ne (tgt := 62) hx hb dX9_handler_56 (by decide) (fun c12 => ?_) (fun c12 => ?_)
                · have hf := oiff c12 hf
                  refine lv_bipush (v := 8) hx hb dX9_handler_62 (by decide) ?_
                  refine lv_iload_n hx hb dX9_handler_64 rfl (lv_at hl.1 1 rfl) ?_
                  refine lv_imul hx hb dX9_handler_65 ?_
                  refine zw_aload_n hx hb dX9_handler_66 rfl (lv_at hl.1 0 rfl) ?_
                  obtain ⟨v13, e13, hf⟩ := ob hf
                  refine zw_gR hx hb hts inX9 hown hW (ci := 9) rfl (by decide) 18 (by decide) (hts _ wd_607) e13 (fun _ _ => rfl) dX9_handler_67 ?_
                  refine lv_iload_n hx hb dX9_handler_70 rfl (lv_at hl.1 1 rfl) ?_
                  obtain ⟨v14, e14, hf⟩ := ob hf
                  refine zw_aI hx hb hW e14 dX9_handler_71 ?_
                  refine lv_iadd hx hb dX9_handler_72 ?_
                  refine zl_istore (lv' := [(6, .int ((8 * a1) + v14)), (0, va_rf a0), (1, .int a1), (2, .int a2), (3, .int a3), (4, .int a4), (5, .int a5)]) hx hb dX9_handler_73 hl (by decide) rfl (fun ls hl => ?_)
                  refine zw_aload_n hx hb dX9_handler_75 rfl (lv_at hl.1 1 rfl) ?_
                  obtain ⟨v15, e15, hf⟩ := ob hf
                  refine zw_gR hx hb hts inX9 hown hW (ci := 9) rfl (by decide) 19 (by decide) (hts _ wd_608) e15 (fun _ _ => rfl) dX9_handler_76 ?_
                  refine lv_iload hx hb dX9_handler_79 (lv_at hl.1 0 rfl) ?_
                  refine lv_iload_n hx hb dX9_handler_81 rfl (lv_at hl.1 3 rfl) ?_
                  obtain ⟨h16, e16, hf⟩ := ob hf
                  refine zw_sI hx hb hW hS e16 dX9_handler_82 (fun H locs hW hS => ?_)
                  refine zw_aload_n hx hb dX9_handler_83 rfl (lv_at hl.1 1 rfl) ?_
                  obtain ⟨v17, e17, hf⟩ := ob hf
                  refine zw_gR hx hb hts inX9 hown hW (ci := 9) rfl (by decide) 20 (by decide) (hts _ wd_609) e17 (fun _ _ => rfl) dX9_handler_84 ?_
                  refine lv_iload hx hb dX9_handler_87 (lv_at hl.1 0 rfl) ?_
                  refine lv_iload_n hx hb dX9_handler_89 rfl (lv_at hl.1 4 rfl) ?_
                  obtain ⟨h18, e18, hf⟩ := ob hf
                  refine zw_sI hx hb hW hS e18 dX9_handler_90 (fun H locs hW hS => ?_)
                  refine zw_aload_n hx hb dX9_handler_91 rfl (lv_at hl.1 1 rfl) ?_
                  obtain ⟨v19, e19, hf⟩ := ob hf
                  refine zw_gR hx hb hts inX9 hown hW (ci := 9) rfl (by decide) 21 (by decide) (hts _ wd_610) e19 (fun _ _ => rfl) dX9_handler_92 ?_
                  refine lv_iload hx hb dX9_handler_95 (lv_at hl.1 0 rfl) ?_
                  refine lv_iload hx hb dX9_handler_97 (lv_at hl.1 5 rfl) ?_
                  obtain ⟨h20, e20, hf⟩ := ob hf
                  refine zw_sI hx hb hW hS e20 dX9_handler_99 (fun H locs hW hS => ?_)
                  refine zw_aload_n hx hb dX9_handler_100 rfl (lv_at hl.1 1 rfl) ?_
                  obtain ⟨v21, e21, hf⟩ := ob hf
                  refine zw_gR hx hb hts inX9 hown hW (ci := 9) rfl (by decide) 22 (by decide) (hts _ wd_611) e21 (fun _ _ => rfl) dX9_handler_101 ?_
                  refine lv_iload hx hb dX9_handler_104 (lv_at hl.1 0 rfl) ?_
                  refine lv_iload hx hb dX9_handler_106 (lv_at hl.1 6 rfl) ?_
                  obtain ⟨h22, e22, hf⟩ := ob hf
                  refine zw_sI hx hb hW hS e22 dX9_handler_108 (fun H locs hW hS => ?_)
                  refine zw_aload_n hx hb dX9_handler_109 rfl (lv_at hl.1 1 rfl) ?_
                  obtain ⟨v23, e23, hf⟩ := ob hf
                  refine zw_gR hx hb hts inX9 hown hW (ci := 9) rfl (by decide) 18 (by decide) (hts _ wd_607) e23 (fun _ _ => rfl) dX9_handler_110 ?_
                  refine lv_iload_n hx hb dX9_handler_113 rfl (lv_at hl.1 2 rfl) ?_
                  refine lv_dup2_11 hx hb dX9_handler_114 rfl (va_rf_cat _) ?_
                  obtain ⟨v24, e24, hf⟩ := ob hf
                  refine zw_aI hx hb hW e24 dX9_handler_115 ?_
                  refine lv_iconst (v := 1) hx hb dX9_handler_116 (by decide) ?_
                  refine lv_iadd hx hb dX9_handler_117 ?_
                  obtain ⟨h25, e25, hf⟩ := ob hf
                  refine zw_sI hx hb hW hS e25 dX9_handler_118 (fun H locs hW hS => ?_)
                  refine zw_aload_n hx hb dX9_handler_119 rfl (lv_at hl.1 1 rfl) ?_
                  obtain ⟨v26, e26, hf⟩ := ob hf
                  refine zw_gR hx hb hts inX9 hown hW (ci := 9) rfl (by decide) 23 (by decide) (hts _ wd_612) e26 (fun _ _ => rfl) dX9_handler_120 ?_
                  refine lv_iload_n hx hb dX9_handler_123 rfl (lv_at hl.1 2 rfl) ?_
                  refine lv_iconst (v := 0) hx hb dX9_handler_124 (by decide) ?_
                  obtain ⟨h27, e27, hf⟩ := ob hf
                  refine zw_sZ hx hb hW hS e27 dX9_handler_125 (fun H locs hW hS => ?_)
                  refine zw_aload_n hx hb dX9_handler_126 rfl (lv_at hl.1 1 rfl) ?_
                  obtain ⟨v28, e28, hf⟩ := ob hf
                  refine zw_gR hx hb hts inX9 hown hW (ci := 9) rfl (by decide) 18 (by decide) (hts _ wd_607) e28 (fun _ _ => rfl) dX9_handler_127 ?_
                  refine lv_iload_n hx hb dX9_handler_130 rfl (lv_at hl.1 2 rfl) ?_
                  obtain ⟨v29, e29, hf⟩ := ob hf
                  refine zw_aI hx hb hW e29 dX9_handler_131 ?_
                  refine lv_iconst (v := 1) hx hb dX9_handler_132 (by decide) ?_
                  refine lv_isub hx hb dX9_handler_133 ?_
                  obtain ⟨rfl, rfl⟩ := oret hf
                  exact zw_ireturn F hW hS dX9_handler_134
                · have hf := oift c12 hf
                  refine lv_bipush (v := (-2)) hx hb dX9_handler_59 (by decide) ?_
                  obtain ⟨rfl, rfl⟩ := oret hf
                  exact zw_ireturn F hW hS dX9_handler_61
              · have hf := oiff c9 hf
                refine lv_iconst (v := (-1)) hx hb dX9_handler_46 (by decide) ?_
                obtain ⟨rfl, rfl⟩ := oret hf
                exact zw_ireturn F hW hS dX9_handler_47
set_option maxRecDepth 100000 in
set_option maxHeartbeats 4000000 in
theorem kX9_handler (l : Launch) (D : va_G) (base : Nat) (a0 : Option Nat) (a1 : Int32) (a2 : Int32) (a3 : Int32) (a4 : Int32) (a5 : Int32) (h : zH) {r : Int32} {h' : zH} (hf : fX9_handler a0 a1 a2 a3 a4 a5 h = some (r, h')) : zMet l D base yX9_handler cX9_handler 7 (some .int) rmX9_handler h [va_rf a0, .int a1, .int a2, .int a3, .int a4, .int a5] (some (.int r)) h' :=
  zMet.of (by decide +kernel) (fun v hv => by simp only [List.mem_cons, List.not_mem_nil, or_false] at hv; rcases hv with rfl | rfl | rfl | rfl | rfl | rfl <;> first | rfl | exact va_rf_cat _) (Nat.le_of_ble_eq_true rfl) (fun p e s m args below meth c ls F hi hl hW hS => kX9_handler_w F a0 a1 a2 a3 a4 a5 h hf s.heap [] ls hl hW hS)
set_option maxRecDepth 100000 in
set_option maxHeartbeats 4000000 in
theorem kX9_goes_b51 (N : Nat) {r : Int32} {h' : zH} (F : zF p s m args meth c cX9_goes 3 RX9 (some .boolean))  (h : zH) (hf : fX9_goes_b51 N  h = some (r, h')) (H : Heap) (locs : List Loc) (ls : Array Slot) (hl : zhas ls 3 []) (hW : z_W D base s h H) (hS : va_S (zA base) s.heap H locs) : W p l e rmX9_goes s m args below meth c H locs 0 0 (MQ below (zQ D base (some (.int r)) h') args s rmX9_goes.cells rmX9_goes.slots (zA base)) (F0 m 51 ls []) := by
  obtain ⟨hx, hb, hml, hown, hts, hret, hlk, hZ⟩ := id F
  unfold fX9_goes_b51 at hf
  refine lv_iconst (v := 1) hx hb dX9_goes_51 (by decide) ?_
  refine lv_goto (tgt := 56) hx hb dX9_goes_52 (by decide) ?_
  obtain ⟨rfl, rfl⟩ := oret hf
  exact zw_zreturn F (by decide) hW hS dX9_goes_56
set_option maxRecDepth 100000 in
set_option maxHeartbeats 4000000 in
theorem kX9_goes_b24 (N : Nat) {r : Int32} {h' : zH} (F : zF p s m args meth c cX9_goes 3 RX9 (some .boolean)) (l0 : Option Nat) (l1 : Int32) (l2 : Int32) (h : zH) (hf : fX9_goes_b24 N l0 l1 l2 h = some (r, h')) (H : Heap) (locs : List Loc) (ls : Array Slot) (hl : zhas ls 3 [(0, va_rf l0), (1, .int l1), (2, .int l2)]) (hW : z_W D base s h H) (hS : va_S (zA base) s.heap H locs) : W p l e rmX9_goes s m args below meth c H locs 0 0 (MQ below (zQ D base (some (.int r)) h') args s rmX9_goes.cells rmX9_goes.slots (zA base)) (F0 m 24 ls []) := by
  obtain ⟨hx, hb, hml, hown, hts, hret, hlk, hZ⟩ := id F
  unfold fX9_goes_b24 at hf
  refine lv_iload_n hx hb dX9_goes_24 rfl (lv_at hl.1 1 rfl) ?_
  obtain ⟨q1, e1, hf⟩ := ob hf
  refine zw_callS (rest := []) (n := 1) F (kX9_isSome (r := q1.1) (h' := q1.2) l D base l1 h e1) wd_750 wd_751 wd_6 wd_752 (by decide +kernel) ⟨by decide, by decide⟩ hW hS rfl hl.1.1 (by decide) rfl ⟨(by decide), (by decide)⟩ dX9_goes_25 (fun H locs hW hS => ?_)
  refine W.eq (g2 := F0 m 28 ls [.int q1.1]) rfl ?_
  refine lv_if_eq (tgt := 55) hx hb dX9_goes_28 (by decide) (fun c2 => ?_) (fun c2 => ?_)
  · have hf := oift c2 hf
    refine lv_iconst (v := 0) hx hb dX9_goes_55 (by decide) ?_
    obtain ⟨rfl, rfl⟩ := oret hf
    exact zw_zreturn F (by decide) hW hS dX9_goes_56
  · have hf := oiff c2 hf
    refine lv_iload_n hx hb dX9_goes_31 rfl (lv_at hl.1 2 rfl) ?_
    obtain ⟨q3, e3, hf⟩ := ob hf
    refine zw_callS (rest := []) (n := 1) F (kX9_isSome (r := q3.1) (h' := q3.2) l D base l2 q1.2 e3) wd_750 wd_751 wd_6 wd_752 (by decide +kernel) ⟨by decide, by decide⟩ hW hS rfl hl.1.1 (by decide) rfl ⟨(by decide), (by decide)⟩ dX9_goes_32 (fun H locs hW hS => ?_)
    refine W.eq (g2 := F0 m 35 ls [.int q3.1]) rfl ?_
    refine lv_if_eq (tgt := 55) hx hb dX9_goes_35 (by decide) (fun c4 => ?_) (fun c4 => ?_)
    · have hf := oift c4 hf
      refine lv_iconst (v := 0) hx hb dX9_goes_55 (by decide) ?_
      obtain ⟨rfl, rfl⟩ := oret hf
      exact zw_zreturn F (by decide) hW hS dX9_goes_56
    · have hf := oiff c4 hf
      refine zw_aload_n hx hb dX9_goes_38 rfl (lv_at hl.1 0 rfl) ?_
      refine lv_iload_n hx hb dX9_goes_39 rfl (lv_at hl.1 1 rfl) ?_
      refine lv_iconst (v := 1) hx hb dX9_goes_40 (by decide) ?_
      refine lv_isub hx hb dX9_goes_41 ?_
      refine lv_iload_n hx hb dX9_goes_42 rfl (lv_at hl.1 2 rfl) ?_
      refine lv_iconst (v := 1) hx hb dX9_goes_43 (by decide) ?_
      refine lv_isub hx hb dX9_goes_44 ?_
      obtain ⟨a905, j5, hf⟩ := ob hf
      obtain ⟨q5, e5, hf⟩ := ob hf
      refine zw_callV (rest := []) (n := 2) F (kX9_isUnder (r := q5.1) (h' := q5.2) l D base N l0 (l1 - 1) (l2 - 1) q3.2 e5) 9 rfl (by decide) j5 wd_753 wd_755 ws_31 wd_6 wd_756 (by decide +kernel) ⟨by decide, by decide⟩ hW hS rfl hl.1.1 (by decide) rfl ⟨(by decide), (by decide)⟩ dX9_goes_45 (fun H locs hW hS => ?_)
      refine W.eq (g2 := F0 m 48 ls [.int q5.1]) rfl ?_
      refine lv_if_eq (tgt := 55) hx hb dX9_goes_48 (by decide) (fun c6 => ?_) (fun c6 => ?_)
      · have hf := oift c6 hf
        refine lv_iconst (v := 0) hx hb dX9_goes_55 (by decide) ?_
        obtain ⟨rfl, rfl⟩ := oret hf
        exact zw_zreturn F (by decide) hW hS dX9_goes_56
      · have hf := oiff c6 hf
        exact kX9_goes_b51 N F q5.2 hf H locs ls (z_sub hl [] rfl) hW hS
set_option maxRecDepth 100000 in
set_option maxHeartbeats 4000000 in
theorem kX9_goes_w (N : Nat) (F : zF p s m args meth c cX9_goes 3 RX9 (some .boolean)) {r : Int32} {h' : zH} (a0 : Option Nat) (a1 : Int32) (a2 : Int32) (h : zH) (hf : fX9_goes N a0 a1 a2 h = some (r, h')) (H : Heap) (locs : List Loc) (ls : Array Slot) (hl : zhas ls 3 [(0, va_rf a0), (1, .int a1), (2, .int a2)]) (hW : z_W D base s h H) (hS : va_S (zA base) s.heap H locs) : W p l e rmX9_goes s m args below meth c H locs 0 0 (MQ below (zQ D base (some (.int r)) h') args s rmX9_goes.cells rmX9_goes.slots (zA base)) (F0 m 0 ls []) := by
  obtain ⟨hx, hb, hml, hown, hts, hret, hlk, hZ⟩ := id F
  unfold fX9_goes at hf
  refine lv_iload_n hx hb dX9_goes_0 rfl (lv_at hl.1 1 rfl) ?_
  refine lv_iload_n hx hb dX9_goes_1 rfl (lv_at hl.1 2 rfl) ?_
  refine lv_icmp_eq (tgt := 51) hx hb dX9_goes_2 (by decide) (fun c1 => ?_) (fun c1 => ?_)
  · have hf := oift c1 hf
    exact kX9_goes_b51 N F h hf H locs ls (z_sub hl [] rfl) hW hS
  · have hf := oiff c1 hf
    refine lv_iload_n hx hb dX9_goes_5 rfl (lv_at hl.1 1 rfl) ?_
    refine lv_bipush (v := 97) hx hb dX9_goes_6 (by decide) ?_
    refine lv_icmp_ne (tgt := 24) hx hb dX9_goes_8 (by decide) (fun c2 => ?_) (fun c2 => ?_)
    · have hf := oiff c2 hf
      exact kX9_goes_b24 N F a0 a1 a2 h hf H locs ls (z_sub hl [0, 1, 2] rfl) hW hS
    · have hf := oift c2 hf
      refine lv_iload_n hx hb dX9_goes_11 rfl (lv_at hl.1 2 rfl) ?_
      obtain ⟨q3, e3, hf⟩ := ob hf
      refine zw_callS (rest := []) (n := 1) F (kX9_isReference (r := q3.1) (h' := q3.2) l D base a2 h e3) wd_747 wd_748 wd_6 wd_749 (by decide +kernel) ⟨by decide, by decide⟩ hW hS rfl hl.1.1 (by decide) rfl ⟨(by decide), (by decide)⟩ dX9_goes_12 (fun H locs hW hS => ?_)
      refine W.eq (g2 := F0 m 15 ls [.int q3.1]) rfl ?_
      refine lv_if_eq (tgt := 24) hx hb dX9_goes_15 (by decide) (fun c4 => ?_) (fun c4 => ?_)
      · have hf := oift c4 hf
        exact kX9_goes_b24 N F a0 a1 a2 q3.2 hf H locs ls (z_sub hl [0, 1, 2] rfl) hW hS
      · have hf := oiff c4 hf
        refine lv_iload_n hx hb dX9_goes_18 rfl (lv_at hl.1 2 rfl) ?_
        refine lv_bipush (v := 98) hx hb dX9_goes_19 (by decide) ?_
        refine lv_icmp_ne (tgt := 51) hx hb dX9_goes_21 (by decide) (fun c5 => ?_) (fun c5 => ?_)
        · have hf := oiff c5 hf
          exact kX9_goes_b51 N F q3.2 hf H locs ls (z_sub hl [] rfl) hW hS
        · have hf := oift c5 hf
          exact kX9_goes_b24 N F a0 a1 a2 q3.2 hf H locs ls (z_sub hl [0, 1, 2] rfl) hW hS
set_option maxRecDepth 100000 in
set_option maxHeartbeats 4000000 in
theorem kX9_goes (l : Launch) (D : va_G) (base : Nat) (N : Nat) (a0 : Option Nat) (a1 : Int32) (a2 : Int32) (h : zH) {r : Int32} {h' : zH} (hf : fX9_goes N a0 a1 a2 h = some (r, h')) : zMet l D base yX9_goes cX9_goes 3 (some .boolean) rmX9_goes h [va_rf a0, .int a1, .int a2] (some (.int r)) h' :=
  zMet.of (by decide +kernel) (fun v hv => by simp only [List.mem_cons, List.not_mem_nil, or_false] at hv; rcases hv with rfl | rfl | rfl <;> first | rfl | exact va_rf_cat _) (Nat.le_of_ble_eq_true rfl) (fun p e s m args below meth c ls F hi hl hW hS => kX9_goes_w N F a0 a1 a2 h hf s.heap [] ls hl hW hS)
set_option maxRecDepth 100000 in
set_option maxHeartbeats 4000000 in
theorem kX9_meet_b91 (N : Nat) {r : Int32} {h' : zH} (F : zF p s m args meth c cX9_meet 4 RX9 (some .int)) (l3 : Int32) (h : zH) (hf : fX9_meet_b91 N l3 h = some (r, h')) (H : Heap) (locs : List Loc) (ls : Array Slot) (hl : zhas ls 4 [(3, .int l3)]) (hW : z_W D base s h H) (hS : va_S (zA base) s.heap H locs) : W p l e rmX9_meet s m args below meth c H locs 0 0 (MQ below (zQ D base (some (.int r)) h') args s rmX9_meet.cells rmX9_meet.slots (zA base)) (F0 m 91 ls []) := by
  obtain ⟨hx, hb, hml, hown, hts, hret, hlk, hZ⟩ := id F
  unfold fX9_meet_b91 at hf
  refine lv_iload_n hx hb dX9_meet_91 rfl (lv_at hl.1 0 rfl) ?_
  refine lv_if_ge (tgt := 100) hx hb dX9_meet_92 (by decide) (fun c1 => ?_) (fun c1 => ?_)
  · have hf := oift c1 hf
    refine lv_iconst (v := 1) hx hb dX9_meet_100 (by decide) ?_
    refine lv_iload_n hx hb dX9_meet_101 rfl (lv_at hl.1 0 rfl) ?_
    refine lv_iadd hx hb dX9_meet_102 ?_
    obtain ⟨rfl, rfl⟩ := oret hf
    exact zw_ireturn F hW hS dX9_meet_103
  · have hf := oiff c1 hf
    refine lv_bipush (v := 98) hx hb dX9_meet_95 (by decide) ?_
    refine lv_goto (tgt := 103) hx hb dX9_meet_97 (by decide) ?_
    obtain ⟨rfl, rfl⟩ := oret hf
    exact zw_ireturn F hW hS dX9_meet_103
set_option maxRecDepth 100000 in
set_option maxHeartbeats 4000000 in
theorem kX9_meet_b66 (N : Nat) {r : Int32} {h' : zH} (F : zF p s m args meth c cX9_meet 4 RX9 (some .int)) : ∀ (n : Nat) (l0 : Option Nat) (l2 : Int32) (l3 : Int32) (h : zH), fX9_meet_b66 N n l0 l2 l3 h = some (r, h') → ∀ (H : Heap) (locs : List Loc) (ls : Array Slot), zhas ls 4 [(0, va_rf l0), (2, .int l2), (3, .int l3)] → z_W D base s h H → va_S (zA base) s.heap H locs → W p l e rmX9_meet s m args below meth c H locs 0 0 (MQ below (zQ D base (some (.int r)) h') args s rmX9_meet.cells rmX9_meet.slots (zA base)) (F0 m 66 ls []) := by
  obtain ⟨hx, hb, hml, hown, hts, hret, hlk, hZ⟩ := id F
  intro n
  induction n with
  | zero =>
    intro l0 l2 l3 h hf
    rw [fX9_meet_b66] at hf
    cases hf
  | succ n ih =>
    intro l0 l2 l3 h hf H locs ls hl hW hS
    rw [fX9_meet_b66] at hf
    refine lv_iload_n hx hb dX9_meet_66 rfl (lv_at hl.1 2 rfl) ?_
    refine lv_if_lt (tgt := 91) hx hb dX9_meet_67 (by decide) (fun c1 => ?_) (fun c1 => ?_)
    · have hf := oift c1 hf
      exact kX9_meet_b91 N F l3 h hf H locs ls (z_sub hl [2] rfl) hW hS
    · have hf := oiff c1 hf
      refine zw_aload_n hx hb dX9_meet_70 rfl (lv_at hl.1 0 rfl) ?_
      refine lv_iload_n hx hb dX9_meet_71 rfl (lv_at hl.1 1 rfl) ?_
      refine lv_iconst (v := 1) hx hb dX9_meet_72 (by decide) ?_
      refine lv_isub hx hb dX9_meet_73 ?_
      refine lv_iload_n hx hb dX9_meet_74 rfl (lv_at hl.1 2 rfl) ?_
      obtain ⟨a902, j2, hf⟩ := ob hf
      obtain ⟨q2, e2, hf⟩ := ob hf
      refine zw_callV (rest := []) (n := 2) F (kX9_isUnder (r := q2.1) (h' := q2.2) l D base N l0 (l2 - 1) l3 h e2) 9 rfl (by decide) j2 wd_753 wd_755 ws_31 wd_6 wd_756 (by decide +kernel) ⟨by decide, by decide⟩ hW hS rfl hl.1.1 (by decide) rfl ⟨(by decide), (by decide)⟩ dX9_meet_75 (fun H locs hW hS => ?_)
      refine W.eq (g2 := F0 m 78 ls [.int q2.1]) rfl ?_
      refine lv_if_ne (tgt := 91) hx hb dX9_meet_78 (by decide) (fun c3 => ?_) (fun c3 => ?_)
      · have hf := oiff c3 hf
        exact kX9_meet_b91 N F l3 q2.2 hf H locs ls (z_sub hl [2] rfl) hW hS
      · have hf := oift c3 hf
        refine zw_aload_n hx hb dX9_meet_81 rfl (lv_at hl.1 0 rfl) ?_
        obtain ⟨v4, e4, hf⟩ := ob hf
        refine zw_gR hx hb hts inX9 hown hW (ci := 9) rfl (by decide) 1 (by decide) (hts _ wd_590) e4 (fun _ _ => rfl) dX9_meet_82 ?_
        refine lv_iload_n hx hb dX9_meet_85 rfl (lv_at hl.1 2 rfl) ?_
        obtain ⟨v5, e5, hf⟩ := ob hf
        refine zw_aI hx hb hW e5 dX9_meet_86 ?_
        refine zl_istore_n (lv' := [(3, .int v5), (0, va_rf l0), (2, .int l2)]) hx hb dX9_meet_87 rfl hl (by decide) rfl (fun ls hl => ?_)
        refine lv_goto (tgt := 66) hx hb dX9_meet_88 (by decide) ?_
        exact ih l0 l2 v5 q2.2 hf H locs ls (z_sub hl [1, 2, 0] rfl) hW hS
set_option maxRecDepth 100000 in
set_option maxHeartbeats 4000000 in
theorem kX9_meet_b36 (N : Nat) {r : Int32} {h' : zH} (F : zF p s m args meth c cX9_meet 4 RX9 (some .int)) (l1 : Int32) (l2 : Int32) (h : zH) (hf : fX9_meet_b36 N l1 l2 h = some (r, h')) (H : Heap) (locs : List Loc) (ls : Array Slot) (hl : zhas ls 4 [(1, .int l1), (2, .int l2)]) (hW : z_W D base s h H) (hS : va_S (zA base) s.heap H locs) : W p l e rmX9_meet s m args below meth c H locs 0 0 (MQ below (zQ D base (some (.int r)) h') args s rmX9_meet.cells rmX9_meet.slots (zA base)) (F0 m 36 ls []) := by
  obtain ⟨hx, hb, hml, hown, hts, hret, hlk, hZ⟩ := id F
  unfold fX9_meet_b36 at hf
  refine lv_iload_n hx hb dX9_meet_36 rfl (lv_at hl.1 0 rfl) ?_
  refine lv_bipush (v := 97) hx hb dX9_meet_37 (by decide) ?_
  refine lv_icmp_ne (tgt := 46) hx hb dX9_meet_39 (by decide) (fun c1 => ?_) (fun c1 => ?_)
  · have hf := oiff c1 hf
    refine lv_iload_n hx hb dX9_meet_46 rfl (lv_at hl.1 0 rfl) ?_
    obtain ⟨rfl, rfl⟩ := oret hf
    exact zw_ireturn F hW hS dX9_meet_47
  · have hf := oift c1 hf
    refine lv_iload_n hx hb dX9_meet_42 rfl (lv_at hl.1 1 rfl) ?_
    refine lv_goto (tgt := 47) hx hb dX9_meet_43 (by decide) ?_
    obtain ⟨rfl, rfl⟩ := oret hf
    exact zw_ireturn F hW hS dX9_meet_47
set_option maxRecDepth 100000 in
set_option maxHeartbeats 4000000 in
theorem kX9_meet_w (N : Nat) (F : zF p s m args meth c cX9_meet 4 RX9 (some .int)) {r : Int32} {h' : zH} (a0 : Option Nat) (a1 : Int32) (a2 : Int32) (h : zH) (hf : fX9_meet N a0 a1 a2 h = some (r, h')) (H : Heap) (locs : List Loc) (ls : Array Slot) (hl : zhas ls 4 [(0, va_rf a0), (1, .int a1), (2, .int a2)]) (hW : z_W D base s h H) (hS : va_S (zA base) s.heap H locs) : W p l e rmX9_meet s m args below meth c H locs 0 0 (MQ below (zQ D base (some (.int r)) h') args s rmX9_meet.cells rmX9_meet.slots (zA base)) (F0 m 0 ls []) := by
  obtain ⟨hx, hb, hml, hown, hts, hret, hlk, hZ⟩ := id F
  unfold fX9_meet at hf
  refine lv_iload_n hx hb dX9_meet_0 rfl (lv_at hl.1 1 rfl) ?_
  refine lv_iload_n hx hb dX9_meet_1 rfl (lv_at hl.1 2 rfl) ?_
  refine lv_icmp_ne (tgt := 7) hx hb dX9_meet_2 (by decide) (fun c1 => ?_) (fun c1 => ?_)
  · have hf := oiff c1 hf
    refine lv_iload_n hx hb dX9_meet_7 rfl (lv_at hl.1 1 rfl) ?_
    obtain ⟨q2, e2, hf⟩ := ob hf
    refine zw_callS (rest := []) (n := 1) F (kX9_isReference (r := q2.1) (h' := q2.2) l D base a1 h e2) wd_747 wd_748 wd_6 wd_749 (by decide +kernel) ⟨by decide, by decide⟩ hW hS rfl hl.1.1 (by decide) rfl ⟨(by decide), (by decide)⟩ dX9_meet_8 (fun H locs hW hS => ?_)
    refine W.eq (g2 := F0 m 11 ls [.int q2.1]) rfl ?_
    refine lv_if_eq (tgt := 21) hx hb dX9_meet_11 (by decide) (fun c3 => ?_) (fun c3 => ?_)
    · have hf := oift c3 hf
      refine lv_bipush (v := 99) hx hb dX9_meet_21 (by decide) ?_
      obtain ⟨rfl, rfl⟩ := oret hf
      exact zw_ireturn F hW hS dX9_meet_23
    · have hf := oiff c3 hf
      refine lv_iload_n hx hb dX9_meet_14 rfl (lv_at hl.1 2 rfl) ?_
      obtain ⟨q4, e4, hf⟩ := ob hf
      refine zw_callS (rest := []) (n := 1) F (kX9_isReference (r := q4.1) (h' := q4.2) l D base a2 q2.2 e4) wd_747 wd_748 wd_6 wd_749 (by decide +kernel) ⟨by decide, by decide⟩ hW hS rfl hl.1.1 (by decide) rfl ⟨(by decide), (by decide)⟩ dX9_meet_15 (fun H locs hW hS => ?_)
      refine W.eq (g2 := F0 m 18 ls [.int q4.1]) rfl ?_
      refine lv_if_ne (tgt := 24) hx hb dX9_meet_18 (by decide) (fun c5 => ?_) (fun c5 => ?_)
      · have hf := oiff c5 hf
        refine lv_iload_n hx hb dX9_meet_24 rfl (lv_at hl.1 1 rfl) ?_
        refine lv_bipush (v := 97) hx hb dX9_meet_25 (by decide) ?_
        refine lv_icmp_eq (tgt := 36) hx hb dX9_meet_27 (by decide) (fun c6 => ?_) (fun c6 => ?_)
        · have hf := oift c6 hf
          exact kX9_meet_b36 N F a1 a2 q4.2 hf H locs ls (z_sub hl [1, 2] rfl) hW hS
        · have hf := oiff c6 hf
          refine lv_iload_n hx hb dX9_meet_30 rfl (lv_at hl.1 2 rfl) ?_
          refine lv_bipush (v := 97) hx hb dX9_meet_31 (by decide) ?_
          refine lv_icmp_ne (tgt := 48) hx hb dX9_meet_33 (by decide) (fun c7 => ?_) (fun c7 => ?_)
          · have hf := oiff c7 hf
            refine lv_iload_n hx hb dX9_meet_48 rfl (lv_at hl.1 1 rfl) ?_
            obtain ⟨q8, e8, hf⟩ := ob hf
            refine zw_callS (rest := []) (n := 1) F (kX9_isSome (r := q8.1) (h' := q8.2) l D base a1 q4.2 e8) wd_750 wd_751 wd_6 wd_752 (by decide +kernel) ⟨by decide, by decide⟩ hW hS rfl hl.1.1 (by decide) rfl ⟨(by decide), (by decide)⟩ dX9_meet_49 (fun H locs hW hS => ?_)
            refine W.eq (g2 := F0 m 52 ls [.int q8.1]) rfl ?_
            refine lv_if_eq (tgt := 104) hx hb dX9_meet_52 (by decide) (fun c9 => ?_) (fun c9 => ?_)
            · have hf := oift c9 hf
              refine lv_bipush (v := 98) hx hb dX9_meet_104 (by decide) ?_
              obtain ⟨rfl, rfl⟩ := oret hf
              exact zw_ireturn F hW hS dX9_meet_106
            · have hf := oiff c9 hf
              refine lv_iload_n hx hb dX9_meet_55 rfl (lv_at hl.1 2 rfl) ?_
              obtain ⟨q10, e10, hf⟩ := ob hf
              refine zw_callS (rest := []) (n := 1) F (kX9_isSome (r := q10.1) (h' := q10.2) l D base a2 q8.2 e10) wd_750 wd_751 wd_6 wd_752 (by decide +kernel) ⟨by decide, by decide⟩ hW hS rfl hl.1.1 (by decide) rfl ⟨(by decide), (by decide)⟩ dX9_meet_56 (fun H locs hW hS => ?_)
              refine W.eq (g2 := F0 m 59 ls [.int q10.1]) rfl ?_
              refine lv_if_eq (tgt := 104) hx hb dX9_meet_59 (by decide) (fun c11 => ?_) (fun c11 => ?_)
              · have hf := oift c11 hf
                refine lv_bipush (v := 98) hx hb dX9_meet_104 (by decide) ?_
                obtain ⟨rfl, rfl⟩ := oret hf
                exact zw_ireturn F hW hS dX9_meet_106
              · have hf := oiff c11 hf
                refine lv_iload_n hx hb dX9_meet_62 rfl (lv_at hl.1 1 rfl) ?_
                refine lv_iconst (v := 1) hx hb dX9_meet_63 (by decide) ?_
                refine lv_isub hx hb dX9_meet_64 ?_
                refine zl_istore_n (lv' := [(3, .int (a1 - 1)), (0, va_rf a0), (1, .int a1), (2, .int a2)]) hx hb dX9_meet_65 rfl hl (by decide) rfl (fun ls hl => ?_)
                exact kX9_meet_b66 N F N a0 a2 (a1 - 1) q10.2 hf H locs ls (z_sub hl [1, 3, 0] rfl) hW hS
          · have hf := oift c7 hf
            exact kX9_meet_b36 N F a1 a2 q4.2 hf H locs ls (z_sub hl [1, 2] rfl) hW hS
      · have hf := oift c5 hf
        refine lv_bipush (v := 99) hx hb dX9_meet_21 (by decide) ?_
        obtain ⟨rfl, rfl⟩ := oret hf
        exact zw_ireturn F hW hS dX9_meet_23
  · have hf := oift c1 hf
    refine lv_iload_n hx hb dX9_meet_5 rfl (lv_at hl.1 1 rfl) ?_
    obtain ⟨rfl, rfl⟩ := oret hf
    exact zw_ireturn F hW hS dX9_meet_6
set_option maxRecDepth 100000 in
set_option maxHeartbeats 4000000 in
theorem kX9_meet (l : Launch) (D : va_G) (base : Nat) (N : Nat) (a0 : Option Nat) (a1 : Int32) (a2 : Int32) (h : zH) {r : Int32} {h' : zH} (hf : fX9_meet N a0 a1 a2 h = some (r, h')) : zMet l D base yX9_meet cX9_meet 4 (some .int) rmX9_meet h [va_rf a0, .int a1, .int a2] (some (.int r)) h' :=
  zMet.of (by decide +kernel) (fun v hv => by simp only [List.mem_cons, List.not_mem_nil, or_false] at hv; rcases hv with rfl | rfl | rfl <;> first | rfl | exact va_rf_cat _) (Nat.le_of_ble_eq_true rfl) (fun p e s m args below meth c ls F hi hl hW hS => kX9_meet_w N F a0 a1 a2 h hf s.heap [] ls hl hW hS)
end
