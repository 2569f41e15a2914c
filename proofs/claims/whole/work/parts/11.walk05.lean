section
variable {p : Program} {l : Launch} {e : Env} {s : State} {m : MethodId} {args : Array Value} {below : List Frame} {meth : Method} {c : Code} {D : va_G} {base : Nat}
set_option maxRecDepth 100000 in
set_option maxHeartbeats 4000000 in
theorem kX6_isType_b42 {r : Int32} {h' : zH} (F : zF p s m args meth c cX6_isType 2 RX6 (some .boolean))  (h : zH) (hf : fX6_isType_b42  h = some (r, h')) (H : Heap) (locs : List Loc) (ls : Array Slot) (hl : zhas ls 2 []) (hW : z_W D base s h H) (hS : va_S (zA base) s.heap H locs) : W p l e rmX6_isType s m args below meth c H locs 0 0 (MQ below (zQ D base (some (.int r)) h') args s rmX6_isType.cells rmX6_isType.slots (zA base)) (F0 m 42 ls []) := by
  obtain ⟨hx, hb, hml, hown, hts, hret, hlk, hZ⟩ := id F
  unfold fX6_isType_b42 at hf
  refine lv_iconst (v := 1) hx hb dX6_isType_42 (by decide) ?_
  refine lv_goto (tgt := 47) hx hb dX6_isType_43 (by decide) ?_
  obtain ⟨rfl, rfl⟩ := oret hf
  exact zw_zreturn F (by decide) hW hS dX6_isType_47
set_option maxRecDepth 100000 in
set_option maxHeartbeats 4000000 in
theorem kX6_isType_b24 {r : Int32} {h' : zH} (F : zF p s m args meth c cX6_isType 2 RX6 (some .boolean))  (h : zH) (hf : fX6_isType_b24  h = some (r, h')) (H : Heap) (locs : List Loc) (ls : Array Slot) (hl : zhas ls 2 []) (hW : z_W D base s h H) (hS : va_S (zA base) s.heap H locs) : W p l e rmX6_isType s m args below meth c H locs 0 0 (MQ below (zQ D base (some (.int r)) h') args s rmX6_isType.cells rmX6_isType.slots (zA base)) (F0 m 24 ls []) := by
  obtain ⟨hx, hb, hml, hown, hts, hret, hlk, hZ⟩ := id F
  unfold fX6_isType_b24 at hf
  refine lv_iconst (v := 1) hx hb dX6_isType_24 (by decide) ?_
  refine lv_goto (tgt := 29) hx hb dX6_isType_25 (by decide) ?_
  obtain ⟨rfl, rfl⟩ := oret hf
  exact zw_zreturn F (by decide) hW hS dX6_isType_29
set_option maxRecDepth 100000 in
set_option maxHeartbeats 4000000 in
theorem kX6_isType_w (F : zF p s m args meth c cX6_isType 2 RX6 (some .boolean)) {r : Int32} {h' : zH} (a0 : Option Nat) (a1 : Int32) (h : zH) (hf : fX6_isType a0 a1 h = some (r, h')) (H : Heap) (locs : List Loc) (ls : Array Slot) (hl : zhas ls 2 [(0, va_rf a0), (1, .int a1)]) (hW : z_W D base s h H) (hS : va_S (zA base) s.heap H locs) : W p l e rmX6_isType s m args below meth c H locs 0 0 (MQ below (zQ D base (some (.int r)) h') args s rmX6_isType.cells rmX6_isType.slots (zA base)) (F0 m 0 ls []) := by
  obtain ⟨hx, hb, hml, hown, hts, hret, hlk, hZ⟩ := id F
  unfold fX6_isType at hf
  refine lv_iload_n hx hb dX6_isType_0 rfl (lv_at hl.1 1 rfl) ?_
  obtain ⟨q1, e1, hf⟩ := ob hf
  refine zw_callSN (rest := []) (n := 1) F (kX8_isRowType (r := q1.1) (h' := q1.2) l D base a1 h e1) wd_171 wd_172 wd_1 wd_173 (by decide +kernel) ⟨by decide, by decide⟩ hW hS rfl hl.1.1 (by decide) rfl ⟨(by decide), (by decide)⟩ dX6_isType_1 (fun H locs hW hS => ?_)
  refine W.eq (g2 := F0 m 4 ls [.int q1.1]) rfl ?_
  refine lv_if_eq (tgt := 30) hx hb dX6_isType_4 (by decide) (fun c2 => ?_) (fun c2 => ?_)
  · have hf := oift c2 hf
    refine lv_iload_n hx hb dX6_isType_30 rfl (lv_at hl.1 1 rfl) ?_
    refine lv_if_eq (tgt := 42) hx hb dX6_isType_31 (by decide) (fun c3 => ?_) (fun c3 => ?_)
    · have hf := oift c3 hf
      exact kX6_isType_b42 F q1.2 hf H locs ls (z_sub hl [] rfl) hW hS
    · have hf := oiff c3 hf
      refine zw_aload_n hx hb dX6_isType_34 rfl (lv_at hl.1 0 rfl) ?_
      refine lv_iload_n hx hb dX6_isType_35 rfl (lv_at hl.1 1 rfl) ?_
      obtain ⟨a904, j4, hf⟩ := ob hf
      obtain ⟨q4, e4, hf⟩ := ob hf
      refine zw_callV (rest := []) (n := 1) F (kX6_kindOf (r := q4.1) (h' := q4.2) l D base a0 a1 q1.2 e4) 6 rfl (by decide) j4 wd_177 wd_179 ws_0 wd_2 wd_180 (by decide +kernel) ⟨by decide, by decide⟩ hW hS rfl hl.1.1 (by decide) rfl ⟨(by decide), (by decide)⟩ dX6_isType_36 (fun H locs hW hS => ?_)
      refine W.eq (g2 := F0 m 39 ls [va_rf q4.1]) rfl ?_
      refine zw_ifnull (tgt := 46) hx hb dX6_isType_39 (by decide) (fun c5 => ?_) (fun c5 => ?_)
      · have hf := oift c5 hf
        refine lv_iconst (v := 0) hx hb dX6_isType_46 (by decide) ?_
        obtain ⟨rfl, rfl⟩ := oret hf
        exact zw_zreturn F (by decide) hW hS dX6_isType_47
      · have hf := oiff c5 hf
        exact kX6_isType_b42 F q4.2 hf H locs ls (z_sub hl [] rfl) hW hS
  · have hf := oiff c2 hf
    refine lv_iload_n hx hb dX6_isType_7 rfl (lv_at hl.1 1 rfl) ?_
    refine lv_bipush (v := 64) hx hb dX6_isType_8 (by decide) ?_
    refine lv_icmp_eq (tgt := 24) hx hb dX6_isType_10 (by decide) (fun c6 => ?_) (fun c6 => ?_)
    · have hf := oift c6 hf
      exact kX6_isType_b24 F q1.2 hf H locs ls (z_sub hl [] rfl) hW hS
    · have hf := oiff c6 hf
      refine zw_aload_n hx hb dX6_isType_13 rfl (lv_at hl.1 0 rfl) ?_
      refine lv_iload_n hx hb dX6_isType_14 rfl (lv_at hl.1 1 rfl) ?_
      obtain ⟨q7, e7, hf⟩ := ob hf
      refine zw_callSN (rest := [va_rf a0]) (n := 1) F (kX8_elementOf (r := q7.1) (h' := q7.2) l D base a1 q1.2 e7) wd_174 wd_175 wd_1 wd_176 (by decide +kernel) ⟨by decide, by decide⟩ hW hS rfl hl.1.1 (by simp only [List.map_cons, List.map_nil, va_rf_cat, z_icat, List.sum_cons, List.sum_nil]; decide) rfl ⟨(by decide), (by decide)⟩ dX6_isType_15 (fun H locs hW hS => ?_)
      refine W.eq (g2 := F0 m 18 ls [.int q7.1, va_rf a0]) rfl ?_
      obtain ⟨a908, j8, hf⟩ := ob hf
      obtain ⟨q8, e8, hf⟩ := ob hf
      refine zw_callV (rest := []) (n := 1) F (kX6_kindOf (r := q8.1) (h' := q8.2) l D base a0 q7.1 q7.2 e8) 6 rfl (by decide) j8 wd_177 wd_179 ws_0 wd_2 wd_180 (by decide +kernel) ⟨by decide, by decide⟩ hW hS rfl hl.1.1 (by decide) rfl ⟨(by decide), (by decide)⟩ dX6_isType_18 (fun H locs hW hS => ?_)
      refine W.eq (g2 := F0 m 21 ls [va_rf q8.1]) rfl ?_
      refine zw_ifnull (tgt := 28) hx hb dX6_isType_21 (by decide) (fun c9 => ?_) (fun c9 => ?_)
      · have hf := oift c9 hf
        refine lv_iconst (v := 0) hx hb dX6_isType_28 (by decide) ?_
        obtain ⟨rfl, rfl⟩ := oret hf
        exact zw_zreturn F (by decide) hW hS dX6_isType_29
      · have hf := oiff c9 hf
        exact kX6_isType_b24 F q8.2 hf H locs ls (z_sub hl [] rfl) hW hS
set_option maxRecDepth 100000 in
set_option maxHeartbeats 4000000 in
theorem kX6_isType (l : Launch) (D : va_G) (base : Nat) (a0 : Option Nat) (a1 : Int32) (h : zH) {r : Int32} {h' : zH} (hf : fX6_isType a0 a1 h = some (r, h')) : zMet l D base yX6_isType cX6_isType 2 (some .boolean) rmX6_isType h [va_rf a0, .int a1] (some (.int r)) h' :=
  zMet.of (by decide +kernel) (fun v hv => by simp only [List.mem_cons, List.not_mem_nil, or_false] at hv; rcases hv with rfl | rfl <;> first | rfl | exact va_rf_cat _) (Nat.le_of_ble_eq_true rfl) (fun p e s m args below meth c ls F hi hl hW hS => kX6_isType_w F a0 a1 h hf s.heap [] ls hl hW hS)
set_option maxRecDepth 100000 in
set_option maxHeartbeats 4000000 in
theorem kX8_isPlace_w (F : zF p s m args meth c cX8_isPlace 1 RX8 (some .boolean)) {r : Int32} {h' : zH} (a0 : Int32) (h : zH) (hf : fX8_isPlace a0 h = some (r, h')) (H : Heap) (locs : List Loc) (ls : Array Slot) (hl : zhas ls 1 [(0, .int a0)]) (hW : z_W D base s h H) (hS : va_S (zA base) s.heap H locs) : W p l e rmX8_isPlace s m args below meth c H locs 0 0 (MQ below (zQ D base (some (.int r)) h') args s rmX8_isPlace.cells rmX8_isPlace.slots (zA base)) (F0 m 0 ls []) := by
  obtain ⟨hx, hb, hml, hown, hts, hret, hlk, hZ⟩ := id F
  unfold fX8_isPlace at hf
  refine lv_iload_n hx hb dX8_isPlace_0 rfl (lv_at hl.1 0 rfl) ?_
  refine lv_if_lt (tgt := 15) hx hb dX8_isPlace_1 (by decide) (fun c1 => ?_) (fun c1 => ?_)
  · have hf := oift c1 hf
    refine lv_iconst (v := 0) hx hb dX8_isPlace_15 (by decide) ?_
    obtain ⟨rfl, rfl⟩ := oret hf
    exact zw_zreturn F (by decide) hW hS dX8_isPlace_16
  · have hf := oiff c1 hf
    refine lv_iload_n hx hb dX8_isPlace_4 rfl (lv_at hl.1 0 rfl) ?_
    refine lv_sipush (v := 200) hx hb dX8_isPlace_5 (by decide) ?_
    refine lv_icmp_ge (tgt := 15) hx hb dX8_isPlace_8 (by decide) (fun c2 => ?_) (fun c2 => ?_)
    · have hf := oift c2 hf
      refine lv_iconst (v := 0) hx hb dX8_isPlace_15 (by decide) ?_
      obtain ⟨rfl, rfl⟩ := oret hf
      exact zw_zreturn F (by decide) hW hS dX8_isPlace_16
    · have hf := oiff c2 hf
      refine lv_iconst (v := 1) hx hb dX8_isPlace_11 (by decide) ?_
      refine lv_goto (tgt := 16) hx hb dX8_isPlace_12 (by decide) ?_
      obtain ⟨rfl, rfl⟩ := oret hf
      exact zw_zreturn F (by decide) hW hS dX8_isPlace_16
set_option maxRecDepth 100000 in
set_option maxHeartbeats 4000000 in
theorem kX8_isPlace (l : Launch) (D : va_G) (base : Nat) (a0 : Int32) (h : zH) {r : Int32} {h' : zH} (hf : fX8_isPlace a0 h = some (r, h')) : zMet l D base yX8_isPlace cX8_isPlace 1 (some .boolean) rmX8_isPlace h [.int a0] (some (.int r)) h' :=
  zMet.of (by decide +kernel) (fun v hv => by simp only [List.mem_cons, List.not_mem_nil, or_false] at hv; subst hv; first | rfl | exact va_rf_cat _) (Nat.le_of_ble_eq_true rfl) (fun p e s m args below meth c ls F hi hl hW hS => kX8_isPlace_w F a0 h hf s.heap [] ls hl hW hS)
set_option maxRecDepth 100000 in
set_option maxHeartbeats 4000000 in
theorem kX6_areOperands_b17 {r : Int32} {h' : zH} (F : zF p s m args meth c cX6_areOperands 5 RX6 (some .boolean)) (l0 : Option Nat) (l1 : Option Nat) (l2 : Int32) (l3 : Int32) (l4 : Int32) (h : zH) (hf : fX6_areOperands_b17 l0 l1 l2 l3 l4 h = some (r, h')) (H : Heap) (locs : List Loc) (ls : Array Slot) (hl : zhas ls 5 [(0, va_rf l0), (1, va_rf l1), (2, .int l2), (3, .int l3), (4, .int l4)]) (hW : z_W D base s h H) (hS : va_S (zA base) s.heap H locs) : W p l e rmX6_areOperands s m args below meth c H locs 0 0 (MQ below (zQ D base (some (.int r)) h') args s rmX6_areOperands.cells rmX6_areOperands.slots (zA base)) (F0 m 17 ls []) := by
  obtain ⟨hx, hb, hml, hown, hts, hret, hlk, hZ⟩ := id F
  unfold fX6_areOperands_b17 at hf
  refine lv_iload_n hx hb dX6_areOperands_17 rfl (lv_at hl.1 2 rfl) ?_
  by_cases c1 : l2 = 2
  · have hf := oift c1 hf
    refine zl_tab hx hb (2) (154) (tgt := 172) dX6_areOperands_18 (by rw [c1]; decide) (by decide) ?_
    refine lv_iload_n hx hb dX6_areOperands_172 rfl (lv_at hl.1 3 rfl) ?_
    refine lv_if_lt (tgt := 188) hx hb dX6_areOperands_173 (by decide) (fun c2 => ?_) (fun c2 => ?_)
    · have hf := oift c2 hf
      refine lv_iconst (v := 0) hx hb dX6_areOperands_188 (by decide) ?_
      obtain ⟨rfl, rfl⟩ := oret hf
      exact zw_zreturn F (by decide) hW hS dX6_areOperands_189
    · have hf := oiff c2 hf
      refine lv_iload_n hx hb dX6_areOperands_176 rfl (lv_at hl.1 3 rfl) ?_
      refine zw_aload_n hx hb dX6_areOperands_177 rfl (lv_at hl.1 1 rfl) ?_
      obtain ⟨v3, e3, hf⟩ := ob hf
      refine zw_gI hx hb hts inX3 hown hW (ci := 3) rfl (by decide) 2 (by decide) (hts _ wd_215) e3 (fun _ _ => rfl) dX6_areOperands_178 ?_
      refine lv_icmp_ge (tgt := 188) hx hb dX6_areOperands_181 (by decide) (fun c4 => ?_) (fun c4 => ?_)
      · have hf := oift c4 hf
        refine lv_iconst (v := 0) hx hb dX6_areOperands_188 (by decide) ?_
        obtain ⟨rfl, rfl⟩ := oret hf
        exact zw_zreturn F (by decide) hW hS dX6_areOperands_189
      · have hf := oiff c4 hf
        refine lv_iconst (v := 1) hx hb dX6_areOperands_184 (by decide) ?_
        refine lv_goto (tgt := 189) hx hb dX6_areOperands_185 (by decide) ?_
        obtain ⟨rfl, rfl⟩ := oret hf
        exact zw_zreturn F (by decide) hW hS dX6_areOperands_189
  · have hf := oiff c1 hf
    by_cases c5 : l2 = 3
    · have hf := oift c5 hf
      refine zl_tab hx hb (3) (154) (tgt := 172) dX6_areOperands_18 (by rw [c5]; decide) (by decide) ?_
      refine lv_iload_n hx hb dX6_areOperands_172 rfl (lv_at hl.1 3 rfl) ?_
      refine lv_if_lt (tgt := 188) hx hb dX6_areOperands_173 (by decide) (fun c6 => ?_) (fun c6 => ?_)
      · have hf := oift c6 hf
        refine lv_iconst (v := 0) hx hb dX6_areOperands_188 (by decide) ?_
        obtain ⟨rfl, rfl⟩ := oret hf
        exact zw_zreturn F (by decide) hW hS dX6_areOperands_189
      · have hf := oiff c6 hf
        refine lv_iload_n hx hb dX6_areOperands_176 rfl (lv_at hl.1 3 rfl) ?_
        refine zw_aload_n hx hb dX6_areOperands_177 rfl (lv_at hl.1 1 rfl) ?_
        obtain ⟨v7, e7, hf⟩ := ob hf
        refine zw_gI hx hb hts inX3 hown hW (ci := 3) rfl (by decide) 2 (by decide) (hts _ wd_215) e7 (fun _ _ => rfl) dX6_areOperands_178 ?_
        refine lv_icmp_ge (tgt := 188) hx hb dX6_areOperands_181 (by decide) (fun c8 => ?_) (fun c8 => ?_)
        · have hf := oift c8 hf
          refine lv_iconst (v := 0) hx hb dX6_areOperands_188 (by decide) ?_
          obtain ⟨rfl, rfl⟩ := oret hf
          exact zw_zreturn F (by decide) hW hS dX6_areOperands_189
        · have hf := oiff c8 hf
          refine lv_iconst (v := 1) hx hb dX6_areOperands_184 (by decide) ?_
          refine lv_goto (tgt := 189) hx hb dX6_areOperands_185 (by decide) ?_
          obtain ⟨rfl, rfl⟩ := oret hf
          exact zw_zreturn F (by decide) hW hS dX6_areOperands_189
    · have hf := oiff c5 hf
      by_cases c9 : l2 = 26
      · have hf := oift c9 hf
        refine zl_tab hx hb (26) (172) (tgt := 190) dX6_areOperands_18 (by rw [c9]; decide) (by decide) ?_
        refine zw_aload_n hx hb dX6_areOperands_190 rfl (lv_at hl.1 0 rfl) ?_
        refine lv_iload_n hx hb dX6_areOperands_191 rfl (lv_at hl.1 3 rfl) ?_
        obtain ⟨a910, j10, hf⟩ := ob hf
        obtain ⟨q10, e10, hf⟩ := ob hf
        refine zw_callV (rest := []) (n := 1) F (kX6_kindAt (r := q10.1) (h' := q10.2) l D base l0 l3 h e10) 6 rfl (by decide) j10 wd_301 wd_121 wd_122 wd_2 wd_123 (by decide +kernel) ⟨by decide, by decide⟩ hW hS rfl hl.1.1 (by decide) rfl ⟨(by decide), (by decide)⟩ dX6_areOperands_192 (fun H locs hW hS => ?_)
        refine W.eq (g2 := F0 m 195 ls [va_rf q10.1]) rfl ?_
        refine zw_ifnull (tgt := 202) hx hb dX6_areOperands_195 (by decide) (fun c11 => ?_) (fun c11 => ?_)
        · have hf := oift c11 hf
          refine lv_iconst (v := 0) hx hb dX6_areOperands_202 (by decide) ?_
          obtain ⟨rfl, rfl⟩ := oret hf
          exact zw_zreturn F (by decide) hW hS dX6_areOperands_203
        · have hf := oiff c11 hf
          refine lv_iconst (v := 1) hx hb dX6_areOperands_198 (by decide) ?_
          refine lv_goto (tgt := 203) hx hb dX6_areOperands_199 (by decide) ?_
          obtain ⟨rfl, rfl⟩ := oret hf
          exact zw_zreturn F (by decide) hW hS dX6_areOperands_203
      · have hf := oiff c9 hf
        by_cases c12 : l2 = 27
        · have hf := oift c12 hf
          refine zl_tab hx hb (27) (186) (tgt := 204) dX6_areOperands_18 (by rw [c12]; decide) (by decide) ?_
          refine zw_aload_n hx hb dX6_areOperands_204 rfl (lv_at hl.1 0 rfl) ?_
          refine lv_iload_n hx hb dX6_areOperands_205 rfl (lv_at hl.1 3 rfl) ?_
          refine lv_iload hx hb dX6_areOperands_206 (lv_at hl.1 4 rfl) ?_
          obtain ⟨a913, j13, hf⟩ := ob hf
          obtain ⟨q13, e13, hf⟩ := ob hf
          refine zw_callV (rest := []) (n := 2) F (kX6_fieldType (r := q13.1) (h' := q13.2) l D base l0 l3 l4 h e13) 6 rfl (by decide) j13 wd_302 wd_303 wd_304 wd_2 wd_305 (by decide +kernel) ⟨by decide, by decide⟩ hW hS rfl hl.1.1 (by decide) rfl ⟨(by decide), (by decide)⟩ dX6_areOperands_208 (fun H locs hW hS => ?_)
          refine W.eq (g2 := F0 m 211 ls [.int q13.1]) rfl ?_
          refine lv_iconst (v := (-1)) hx hb dX6_areOperands_211 (by decide) ?_
          refine lv_icmp_eq (tgt := 219) hx hb dX6_areOperands_212 (by decide) (fun c14 => ?_) (fun c14 => ?_)
          · have hf := oift c14 hf
            refine lv_iconst (v := 0) hx hb dX6_areOperands_219 (by decide) ?_
            obtain ⟨rfl, rfl⟩ := oret hf
            exact zw_zreturn F (by decide) hW hS dX6_areOperands_220
          · have hf := oiff c14 hf
            refine lv_iconst (v := 1) hx hb dX6_areOperands_215 (by decide) ?_
            refine lv_goto (tgt := 220) hx hb dX6_areOperands_216 (by decide) ?_
            obtain ⟨rfl, rfl⟩ := oret hf
            exact zw_zreturn F (by decide) hW hS dX6_areOperands_220
        · have hf := oiff c12 hf
          by_cases c15 : l2 = 28
          · have hf := oift c15 hf
            refine zl_tab hx hb (28) (186) (tgt := 204) dX6_areOperands_18 (by rw [c15]; decide) (by decide) ?_
            refine zw_aload_n hx hb dX6_areOperands_204 rfl (lv_at hl.1 0 rfl) ?_
            refine lv_iload_n hx hb dX6_areOperands_205 rfl (lv_at hl.1 3 rfl) ?_
            refine lv_iload hx hb dX6_areOperands_206 (lv_at hl.1 4 rfl) ?_
            obtain ⟨a916, j16, hf⟩ := ob hf
            obtain ⟨q16, e16, hf⟩ := ob hf
            refine zw_callV (rest := []) (n := 2) F (kX6_fieldType (r := q16.1) (h' := q16.2) l D base l0 l3 l4 h e16) 6 rfl (by decide) j16 wd_302 wd_303 wd_304 wd_2 wd_305 (by decide +kernel) ⟨by decide, by decide⟩ hW hS rfl hl.1.1 (by decide) rfl ⟨(by decide), (by decide)⟩ dX6_areOperands_208 (fun H locs hW hS => ?_)
            refine W.eq (g2 := F0 m 211 ls [.int q16.1]) rfl ?_
            refine lv_iconst (v := (-1)) hx hb dX6_areOperands_211 (by decide) ?_
            refine lv_icmp_eq (tgt := 219) hx hb dX6_areOperands_212 (by decide) (fun c17 => ?_) (fun c17 => ?_)
            · have hf := oift c17 hf
              refine lv_iconst (v := 0) hx hb dX6_areOperands_219 (by decide) ?_
              obtain ⟨rfl, rfl⟩ := oret hf
              exact zw_zreturn F (by decide) hW hS dX6_areOperands_220
            · have hf := oiff c17 hf
              refine lv_iconst (v := 1) hx hb dX6_areOperands_215 (by decide) ?_
              refine lv_goto (tgt := 220) hx hb dX6_areOperands_216 (by decide) ?_
              obtain ⟨rfl, rfl⟩ := oret hf
              exact zw_zreturn F (by decide) hW hS dX6_areOperands_220
          · have hf := oiff c15 hf
            by_cases c18 : l2 = 29
            · have hf := oift c18 hf
              refine zl_tab hx hb (29) (172) (tgt := 190) dX6_areOperands_18 (by rw [c18]; decide) (by decide) ?_
              refine zw_aload_n hx hb dX6_areOperands_190 rfl (lv_at hl.1 0 rfl) ?_
              refine lv_iload_n hx hb dX6_areOperands_191 rfl (lv_at hl.1 3 rfl) ?_
              obtain ⟨a919, j19, hf⟩ := ob hf
              obtain ⟨q19, e19, hf⟩ := ob hf
              refine zw_callV (rest := []) (n := 1) F (kX6_kindAt (r := q19.1) (h' := q19.2) l D base l0 l3 h e19) 6 rfl (by decide) j19 wd_301 wd_121 wd_122 wd_2 wd_123 (by decide +kernel) ⟨by decide, by decide⟩ hW hS rfl hl.1.1 (by decide) rfl ⟨(by decide), (by decide)⟩ dX6_areOperands_192 (fun H locs hW hS => ?_)
              refine W.eq (g2 := F0 m 195 ls [va_rf q19.1]) rfl ?_
              refine zw_ifnull (tgt := 202) hx hb dX6_areOperands_195 (by decide) (fun c20 => ?_) (fun c20 => ?_)
              · have hf := oift c20 hf
                refine lv_iconst (v := 0) hx hb dX6_areOperands_202 (by decide) ?_
                obtain ⟨rfl, rfl⟩ := oret hf
                exact zw_zreturn F (by decide) hW hS dX6_areOperands_203
              · have hf := oiff c20 hf
                refine lv_iconst (v := 1) hx hb dX6_areOperands_198 (by decide) ?_
                refine lv_goto (tgt := 203) hx hb dX6_areOperands_199 (by decide) ?_
                obtain ⟨rfl, rfl⟩ := oret hf
                exact zw_zreturn F (by decide) hW hS dX6_areOperands_203
            · have hf := oiff c18 hf
              by_cases c21 : l2 = 30
              · have hf := oift c21 hf
                refine zl_tab hx hb (30) (172) (tgt := 190) dX6_areOperands_18 (by rw [c21]; decide) (by decide) ?_
                refine zw_aload_n hx hb dX6_areOperands_190 rfl (lv_at hl.1 0 rfl) ?_
                refine lv_iload_n hx hb dX6_areOperands_191 rfl (lv_at hl.1 3 rfl) ?_
                obtain ⟨a922, j22, hf⟩ := ob hf
                obtain ⟨q22, e22, hf⟩ := ob hf
                refine zw_callV (rest := []) (n := 1) F (kX6_kindAt (r := q22.1) (h' := q22.2) l D base l0 l3 h e22) 6 rfl (by decide) j22 wd_301 wd_121 wd_122 wd_2 wd_123 (by decide +kernel) ⟨by decide, by decide⟩ hW hS rfl hl.1.1 (by decide) rfl ⟨(by decide), (by decide)⟩ dX6_areOperands_192 (fun H locs hW hS => ?_)
                refine W.eq (g2 := F0 m 195 ls [va_rf q22.1]) rfl ?_
                refine zw_ifnull (tgt := 202) hx hb dX6_areOperands_195 (by decide) (fun c23 => ?_) (fun c23 => ?_)
                · have hf := oift c23 hf
                  refine lv_iconst (v := 0) hx hb dX6_areOperands_202 (by decide) ?_
                  obtain ⟨rfl, rfl⟩ := oret hf
                  exact zw_zreturn F (by decide) hW hS dX6_areOperands_203
                · have hf := oiff c23 hf
                  refine lv_iconst (v := 1) hx hb dX6_areOperands_198 (by decide) ?_
                  refine lv_goto (tgt := 203) hx hb dX6_areOperands_199 (by decide) ?_
                  obtain ⟨rfl, rfl⟩ := oret hf
                  exact zw_zreturn F (by decide) hW hS dX6_areOperands_203
              · have hf := oiff c21 hf
                by_cases c24 : l2 = 31
                · have hf := oift c24 hf
                  refine zl_tab hx hb (31) (203) (tgt := 221) dX6_areOperands_18 (by rw [c24]; decide) (by decide) ?_
                  refine lv_iload_n hx hb dX6_areOperands_221 rfl (lv_at hl.1 3 rfl) ?_
                  refine lv_if_lt (tgt := 237) hx hb dX6_areOperands_222 (by decide) (fun c25 => ?_) (fun c25 => ?_)
                  · have hf := oift c25 hf
                    refine lv_iconst (v := 0) hx hb dX6_areOperands_237 (by decide) ?_
                    obtain ⟨rfl, rfl⟩ := oret hf
                    exact zw_zreturn F (by decide) hW hS dX6_areOperands_238
                  · have hf := oiff c25 hf
                    refine lv_iload_n hx hb dX6_areOperands_225 rfl (lv_at hl.1 3 rfl) ?_
                    refine zw_aload_n hx hb dX6_areOperands_226 rfl (lv_at hl.1 0 rfl) ?_
                    obtain ⟨v26, e26, hf⟩ := ob hf
                    refine zw_gI hx hb hts inX6 hown hW (ci := 6) rfl (by decide) 2 (by decide) (hts _ wd_33) e26 (fun _ _ => rfl) dX6_areOperands_227 ?_
                    refine lv_icmp_gt (tgt := 237) hx hb dX6_areOperands_230 (by decide) (fun c27 => ?_) (fun c27 => ?_)
                    · have hf := oift c27 hf
                      refine lv_iconst (v := 0) hx hb dX6_areOperands_237 (by decide) ?_
                      obtain ⟨rfl, rfl⟩ := oret hf
                      exact zw_zreturn F (by decide) hW hS dX6_areOperands_238
                    · have hf := oiff c27 hf
                      refine lv_iconst (v := 1) hx hb dX6_areOperands_233 (by decide) ?_
                      refine lv_goto (tgt := 238) hx hb dX6_areOperands_234 (by decide) ?_
                      obtain ⟨rfl, rfl⟩ := oret hf
                      exact zw_zreturn F (by decide) hW hS dX6_areOperands_238
                · have hf := oiff c24 hf
                  by_cases c28 : l2 = 35
                  · have hf := oift c28 hf
                    refine zl_tab hx hb (35) (221) (tgt := 239) dX6_areOperands_18 (by rw [c28]; decide) (by decide) ?_
                    refine zw_aload_n hx hb dX6_areOperands_239 rfl (lv_at hl.1 0 rfl) ?_
                    refine lv_iload_n hx hb dX6_areOperands_240 rfl (lv_at hl.1 3 rfl) ?_
                    obtain ⟨a929, j29, hf⟩ := ob hf
                    obtain ⟨q29, e29, hf⟩ := ob hf
                    refine zw_callV (rest := []) (n := 1) F (kX6_methodAt (r := q29.1) (h' := q29.2) l D base l0 l3 h e29) 6 rfl (by decide) j29 wd_310 wd_263 wd_264 wd_2 wd_265 (by decide +kernel) ⟨by decide, by decide⟩ hW hS rfl hl.1.1 (by decide) rfl ⟨(by decide), (by decide)⟩ dX6_areOperands_241 (fun H locs hW hS => ?_)
                    refine W.eq (g2 := F0 m 244 ls [va_rf q29.1]) rfl ?_
                    refine zw_ifnull (tgt := 251) hx hb dX6_areOperands_244 (by decide) (fun c30 => ?_) (fun c30 => ?_)
                    · have hf := oift c30 hf
                      refine lv_iconst (v := 0) hx hb dX6_areOperands_251 (by decide) ?_
                      obtain ⟨rfl, rfl⟩ := oret hf
                      exact zw_zreturn F (by decide) hW hS dX6_areOperands_252
                    · have hf := oiff c30 hf
                      refine lv_iconst (v := 1) hx hb dX6_areOperands_247 (by decide) ?_
                      refine lv_goto (tgt := 252) hx hb dX6_areOperands_248 (by decide) ?_
                      obtain ⟨rfl, rfl⟩ := oret hf
                      exact zw_zreturn F (by decide) hW hS dX6_areOperands_252
                  · have hf := oiff c28 hf
                    by_cases c31 : l2 = 36
                    · have hf := oift c31 hf
                      refine zl_tab hx hb (36) (235) (tgt := 253) dX6_areOperands_18 (by rw [c31]; decide) (by decide) ?_
                      refine zw_aload_n hx hb dX6_areOperands_253 rfl (lv_at hl.1 0 rfl) ?_
                      refine lv_iload_n hx hb dX6_areOperands_254 rfl (lv_at hl.1 3 rfl) ?_
                      refine lv_iload hx hb dX6_areOperands_255 (lv_at hl.1 4 rfl) ?_
                      obtain ⟨a932, j32, hf⟩ := ob hf
                      obtain ⟨q32, e32, hf⟩ := ob hf
                      refine zw_callV (rest := []) (n := 2) F (kX6_methodInSlot (r := q32.1) (h' := q32.2) l D base l0 l3 l4 h e32) 6 rfl (by decide) j32 wd_311 wd_312 wd_313 wd_2 wd_314 (by decide +kernel) ⟨by decide, by decide⟩ hW hS rfl hl.1.1 (by decide) rfl ⟨(by decide), (by decide)⟩ dX6_areOperands_257 (fun H locs hW hS => ?_)
                      refine W.eq (g2 := F0 m 260 ls [va_rf q32.1]) rfl ?_
                      refine zw_ifnull (tgt := 267) hx hb dX6_areOperands_260 (by decide) (fun c33 => ?_) (fun c33 => ?_)
                      · have hf := oift c33 hf
                        refine lv_iconst (v := 0) hx hb dX6_areOperands_267 (by decide) ?_
                        obtain ⟨rfl, rfl⟩ := oret hf
                        exact zw_zreturn F (by decide) hW hS dX6_areOperands_268
                      · have hf := oiff c33 hf
                        refine lv_iconst (v := 1) hx hb dX6_areOperands_263 (by decide) ?_
                        refine lv_goto (tgt := 268) hx hb dX6_areOperands_264 (by decide) ?_
                        obtain ⟨rfl, rfl⟩ := oret hf
                        exact zw_zreturn F (by decide) hW hS dX6_areOperands_268
                    · have hf := oiff c31 hf
                      refine zl_tabD hx hb [2, 3, 26, 27, 28, 29, 30, 31, 35, 36] (tgt := 269) dX6_areOperands_18 (fun k hk => by simp only [List.mem_cons, List.not_mem_nil, or_false] at hk; rcases hk with rfl | rfl | rfl | rfl | rfl | rfl | rfl | rfl | rfl | rfl <;> first | exact lv_neT c1 (by decide) | exact lv_neT c5 (by decide) | exact lv_neT c9 (by decide) | exact lv_neT c12 (by decide) | exact lv_neT c15 (by decide) | exact lv_neT c18 (by decide) | exact lv_neT c21 (by decide) | exact lv_neT c24 (by decide) | exact lv_neT c28 (by decide) | exact lv_neT c31 (by decide)) (by decide) ?_
                      refine lv_iload_n hx hb dX6_areOperands_269 rfl (lv_at hl.1 2 rfl) ?_
                      refine lv_if_lt (tgt := 283) hx hb dX6_areOperands_270 (by decide) (fun c34 => ?_) (fun c34 => ?_)
                      · have hf := oift c34 hf
                        refine lv_iconst (v := 0) hx hb dX6_areOperands_283 (by decide) ?_
                        obtain ⟨rfl, rfl⟩ := oret hf
                        exact zw_zreturn F (by decide) hW hS dX6_areOperands_284
                      · have hf := oiff c34 hf
                        refine lv_iload_n hx hb dX6_areOperands_273 rfl (lv_at hl.1 2 rfl) ?_
                        refine lv_bipush (v := 41) hx hb dX6_areOperands_274 (by decide) ?_
                        refine lv_icmp_gt (tgt := 283) hx hb dX6_areOperands_276 (by decide) (fun c35 => ?_) (fun c35 => ?_)
                        · have hf := oift c35 hf
                          refine lv_iconst (v := 0) hx hb dX6_areOperands_283 (by decide) ?_
                          obtain ⟨rfl, rfl⟩ := oret hf
                          exact zw_zreturn F (by decide) hW hS dX6_areOperands_284
                        · have hf := oiff c35 hf
                          refine lv_iconst (v := 1) hx hb dX6_areOperands_279 (by decide) ?_
                          refine lv_goto (tgt := 284) hx hb dX6_areOperands_280 (by decide) ?_
                          obtain ⟨rfl, rfl⟩ := oret hf
                          exact zw_zreturn F (by decide) hW hS dX6_areOperands_284
set_option maxRecDepth 100000 in
set_option maxHeartbeats 4000000 in
theorem kX6_areOperands_w (F : zF p s m args meth c cX6_areOperands 5 RX6 (some .boolean)) {r : Int32} {h' : zH} (a0 : Option Nat) (a1 : Option Nat) (a2 : Int32) (a3 : Int32) (a4 : Int32) (h : zH) (hf : fX6_areOperands a0 a1 a2 a3 a4 h = some (r, h')) (H : Heap) (locs : List Loc) (ls : Array Slot) (hl : zhas ls 5 [(0, va_rf a0), (1, va_rf a1), (2, .int a2), (3, .int a3), (4, .int a4)]) (hW : z_W D base s h H) (hS : va_S (zA base) s.heap H locs) : W p l e rmX6_areOperands s m args below meth c H locs 0 0 (MQ below (zQ D base (some (.int r)) h') args s rmX6_areOperands.cells rmX6_areOperands.slots (zA base)) (F0 m 0 ls []) := by
  obtain ⟨hx, hb, hml, hown, hts, hret, hlk, hZ⟩ := id F
  unfold fX6_areOperands at hf
  refine lv_iload_n hx hb dX6_areOperands_0 rfl (lv_at hl.1 2 rfl) ?_
  refine lv_bipush (v := 19) hx hb dX6_areOperands_1 (by decide) ?_
  refine lv_icmp_lt (tgt := 17) hx hb dX6_areOperands_3 (by decide) (fun c1 => ?_) (fun c1 => ?_)
  · have hf := oift c1 hf
    exact kX6_areOperands_b17 F a0 a1 a2 a3 a4 h hf H locs ls (z_sub hl [0, 1, 2, 3, 4] rfl) hW hS
  · have hf := oiff c1 hf
    refine lv_iload_n hx hb dX6_areOperands_6 rfl (lv_at hl.1 2 rfl) ?_
    refine lv_bipush (v := 25) hx hb dX6_areOperands_7 (by decide) ?_
    refine lv_icmp_gt (tgt := 17) hx hb dX6_areOperands_9 (by decide) (fun c2 => ?_) (fun c2 => ?_)
    · have hf := oift c2 hf
      exact kX6_areOperands_b17 F a0 a1 a2 a3 a4 h hf H locs ls (z_sub hl [0, 1, 2, 3, 4] rfl) hW hS
    · have hf := oiff c2 hf
      refine lv_iload_n hx hb dX6_areOperands_12 rfl (lv_at hl.1 3 rfl) ?_
      obtain ⟨q3, e3, hf⟩ := ob hf
      refine zw_callSN (rest := []) (n := 1) F (kX8_isPlace (r := q3.1) (h' := q3.2) l D base a3 h e3) wd_298 wd_299 wd_1 wd_300 (by decide +kernel) ⟨by decide, by decide⟩ hW hS rfl hl.1.1 (by decide) rfl ⟨(by decide), (by decide)⟩ dX6_areOperands_13 (fun H locs hW hS => ?_)
      refine W.eq (g2 := F0 m 16 ls [.int q3.1]) rfl ?_
      obtain ⟨hz, rfl, rfl⟩ := oretz hf
      exact zw_zreturn F hz hW hS dX6_areOperands_16
set_option maxRecDepth 100000 in
set_option maxHeartbeats 4000000 in
theorem kX6_areOperands (l : Launch) (D : va_G) (base : Nat) (a0 : Option Nat) (a1 : Option Nat) (a2 : Int32) (a3 : Int32) (a4 : Int32) (h : zH) {r : Int32} {h' : zH} (hf : fX6_areOperands a0 a1 a2 a3 a4 h = some (r, h')) : zMet l D base yX6_areOperands cX6_areOperands 5 (some .boolean) rmX6_areOperands h [va_rf a0, va_rf a1, .int a2, .int a3, .int a4] (some (.int r)) h' :=
  zMet.of (by decide +kernel) (fun v hv => by simp only [List.mem_cons, List.not_mem_nil, or_false] at hv; rcases hv with rfl | rfl | rfl | rfl | rfl <;> first | rfl | exact va_rf_cat _) (Nat.le_of_ble_eq_true rfl) (fun p e s m args below meth c ls F hi hl hW hS => kX6_areOperands_w F a0 a1 a2 a3 a4 h hf s.heap [] ls hl hW hS)
set_option maxRecDepth 100000 in
set_option maxHeartbeats 4000000 in
theorem kX7_init_w (F : zF p s m args meth c cX7_init 2 RX7 none) (hin : meth.name = "<init>") {h' : zH} (a0 : Option Nat) (a1 : Option Nat) (h : zH) (hf : fX7_init a0 a1 h = some h') (H : Heap) (locs : List Loc) (ls : Array Slot) (hl : zhas ls 2 [(0, va_rf a0), (1, va_rf a1)]) (hW : z_W D base s h H) (hS : va_S (zA base) s.heap H locs) : W p l e rmX7_init s m args below meth c H locs 0 0 (MQ below (zQ D base none h') args s rmX7_init.cells rmX7_init.slots (zA base)) (F0 m 0 ls []) := by
  obtain ⟨hx, hb, hml, hown, hts, hret, hlk, hZ⟩ := id F
  unfold fX7_init at hf
  refine zw_aload_n hx hb dX7_init_0 rfl (lv_at hl.1 0 rfl) ?_
  obtain ⟨a901, e1, hf⟩ := ob hf
  refine zw_objInit F e1 wd_49 wd_19 wd_20 (by decide +kernel) hl.1.1 (by decide) (by simp only [List.map_cons, List.map_nil, va_rf_cat, z_icat, List.sum_cons, List.sum_nil]; decide) dX7_init_1 ?_
  refine zw_aload_n hx hb dX7_init_4 rfl (lv_at hl.1 0 rfl) ?_
  refine zw_aload_n hx hb dX7_init_5 rfl (lv_at hl.1 1 rfl) ?_
  obtain ⟨h2, e2, hf⟩ := ob hf
  refine zw_pR hx hb hts inX7 tyX7 tyX7_ok nmX7 hown hW hS (ci := 7) rfl (by decide) 0 (by decide) (hts _ wd_89) (Or.inr ⟨rfl, hin, rfl⟩) (fun _ _ => rfl) (fun v => z_refn v) (fun v => z_reff v) e2 dX7_init_6 (fun H locs hW hS => ?_)
  refine zw_aload_n hx hb dX7_init_9 rfl (lv_at hl.1 0 rfl) ?_
  refine zw_nO hx hb hts inX4 tyX4 tyX4_ok hown (hts _ wd_50) (hts _ wd_51) (hts _ wd_4) hW hS (ci := 4) rfl (by decide) zdX4 (by decide) (by decide) dX7_init_10 (fun H hW hS => ?_)
  refine lv_dup hx hb dX7_init_13 (va_rf_cat _) ?_
  obtain ⟨h3, e3, hf⟩ := ob hf
  refine zw_callIN (rest := [va_rf (some (zs h2)), va_rf a0]) (n := 0) F (kX4_init l D base (some (zs h2)) (nwO 4 h2) e3) rfl wd_52 wd_53 wd_4 wd_54 rfl (by decide +kernel) ⟨by decide, by decide⟩ hW hS rfl hl.1.1 (by simp only [List.map_cons, List.map_nil, va_rf_cat, z_icat, List.sum_cons, List.sum_nil]; decide) rfl ⟨(by decide), (by decide)⟩ dX7_init_14 (fun H locs hW hS => ?_)
  refine W.eq (g2 := F0 m 17 ls [va_rf (some (zs h2)), va_rf a0]) rfl ?_
  obtain ⟨h4, e4, hf⟩ := ob hf
  refine zw_pR hx hb hts inX7 tyX7 tyX7_ok nmX7 hown hW hS (ci := 7) rfl (by decide) 1 (by decide) (hts _ wd_90) (Or.inr ⟨rfl, hin, rfl⟩) (fun _ _ => rfl) (fun v => z_refn v) (fun v => z_reff v) e4 dX7_init_17 (fun H locs hW hS => ?_)
  refine zw_aload_n hx hb dX7_init_20 rfl (lv_at hl.1 0 rfl) ?_
  refine zw_nO hx hb hts inX5 tyX5 tyX5_ok hown (hts _ wd_73) (hts _ wd_74) (hts _ wd_5) hW hS (ci := 5) rfl (by decide) zdX5 (by decide) (by decide) dX7_init_21 (fun H hW hS => ?_)
  refine lv_dup hx hb dX7_init_24 (va_rf_cat _) ?_
  refine zw_aload_n hx hb dX7_init_25 rfl (lv_at hl.1 1 rfl) ?_
  refine zw_aload_n hx hb dX7_init_26 rfl (lv_at hl.1 0 rfl) ?_
  obtain ⟨v5, e5, hf⟩ := ob hf
  refine zw_gR hx hb hts inX7 hown hW (ci := 7) rfl (by decide) 1 (by decide) (hts _ wd_90) e5 (fun _ _ => rfl) dX7_init_27 ?_
  obtain ⟨h6, e6, hf⟩ := ob hf
  refine zw_callI (rest := [va_rf (some (zs h4)), va_rf a0]) (n := 2) F (kX5_init l D base (some (zs h4)) a1 v5 (nwO 5 h4) e6) rfl wd_75 wd_76 wd_5 wd_77 rfl (by decide +kernel) ⟨by decide, by decide⟩ hW hS rfl hl.1.1 (by simp only [List.map_cons, List.map_nil, va_rf_cat, z_icat, List.sum_cons, List.sum_nil]; decide) rfl ⟨(by decide), (by decide)⟩ dX7_init_30 (fun H locs hW hS => ?_)
  refine W.eq (g2 := F0 m 33 ls [va_rf (some (zs h4)), va_rf a0]) rfl ?_
  obtain ⟨h7, e7, hf⟩ := ob hf
  refine zw_pR hx hb hts inX7 tyX7 tyX7_ok nmX7 hown hW hS (ci := 7) rfl (by decide) 2 (by decide) (hts _ wd_91) (Or.inr ⟨rfl, hin, rfl⟩) (fun _ _ => rfl) (fun v => z_refn v) (fun v => z_reff v) e7 dX7_init_33 (fun H locs hW hS => ?_)
  obtain rfl := oretv hf
  exact zw_vreturn F hW hS dX7_init_36
set_option maxRecDepth 100000 in
set_option maxHeartbeats 4000000 in
theorem kX7_init (l : Launch) (D : va_G) (base : Nat) (a0 : Option Nat) (a1 : Option Nat) (h : zH) {h' : zH} (hf : fX7_init a0 a1 h = some h') : zMet l D base yX7_init cX7_init 2 none rmX7_init h [va_rf a0, va_rf a1] none h' :=
  zMet.of (by decide +kernel) (fun v hv => by simp only [List.mem_cons, List.not_mem_nil, or_false] at hv; rcases hv with rfl | rfl <;> first | rfl | exact va_rf_cat _) (Nat.le_of_ble_eq_true rfl) (fun p e s m args below meth c ls F hi hl hW hS => kX7_init_w F (hi rfl) a0 a1 h hf s.heap [] ls hl hW hS)
set_option maxRecDepth 100000 in
set_option maxHeartbeats 4000000 in
theorem kX7_mark_w (F : zF p s m args meth c cX7_mark 3 RX7 none) {h' : zH} (a0 : Option Nat) (a1 : Option Nat) (a2 : Int32) (h : zH) (hf : fX7_mark a0 a1 a2 h = some h') (H : Heap) (locs : List Loc) (ls : Array Slot) (hl : zhas ls 3 [(0, va_rf a0), (1, va_rf a1), (2, .int a2)]) (hW : z_W D base s h H) (hS : va_S (zA base) s.heap H locs) : W p l e rmX7_mark s m args below meth c H locs 0 0 (MQ below (zQ D base none h') args s rmX7_mark.cells rmX7_mark.slots (zA base)) (F0 m 0 ls []) := by
  obtain ⟨hx, hb, hml, hown, hts, hret, hlk, hZ⟩ := id F
  unfold fX7_mark at hf
  refine zw_aload_n hx hb dX7_mark_0 rfl (lv_at hl.1 1 rfl) ?_
  refine lv_iconst (v := 1) hx hb dX7_mark_1 (by decide) ?_
  obtain ⟨h1, e1, hf⟩ := ob hf
  obtain ⟨b1, e1⟩ := pZ_spec e1
  refine zw_pI hx hb hts inX1 tyX1 tyX1_ok nmX1 hown hW hS (ci := 1) rfl (by decide) 5 (by decide) (hts _ wd_339) (Or.inl rfl) (fun _ _ => rfl) (z_bool b1).1 (z_bool b1).2 e1 dX7_mark_2 (fun H locs hW hS => ?_)
  refine zw_aload_n hx hb dX7_mark_5 rfl (lv_at hl.1 0 rfl) ?_
  refine zw_aload_n hx hb dX7_mark_6 rfl (lv_at hl.1 0 rfl) ?_
  obtain ⟨v2, e2, hf⟩ := ob hf
  refine zw_gI hx hb hts inX7 hown hW (ci := 7) rfl (by decide) 3 (by decide) (hts _ wd_92) e2 (fun _ _ => rfl) dX7_mark_7 ?_
  refine lv_iload_n hx hb dX7_mark_10 rfl (lv_at hl.1 2 rfl) ?_
  refine va_mmin hx hb (by rw [hml]; exact hl.1.1.symm) hown (hts _ wd_415) (hts _ wd_416) (hts _ wd_12) (zcodeMin hts) (by decide) (by simp only [List.map_cons, List.map_nil, va_rf_cat, z_icat, List.sum_cons, List.sum_nil]; decide) (by decide) (by decide) dX7_mark_11 ?_
  obtain ⟨h3, e3, hf⟩ := ob hf
  refine zw_pI hx hb hts inX7 tyX7 tyX7_ok nmX7 hown hW hS (ci := 7) rfl (by decide) 3 (by decide) (hts _ wd_92) (Or.inl rfl) (fun _ _ => rfl) rfl rfl e3 dX7_mark_14 (fun H locs hW hS => ?_)
  obtain rfl := oretv hf
  exact zw_vreturn F hW hS dX7_mark_17
set_option maxRecDepth 100000 in
set_option maxHeartbeats 4000000 in
theorem kX7_mark (l : Launch) (D : va_G) (base : Nat) (a0 : Option Nat) (a1 : Option Nat) (a2 : Int32) (h : zH) {h' : zH} (hf : fX7_mark a0 a1 a2 h = some h') : zMet l D base yX7_mark cX7_mark 3 none rmX7_mark h [va_rf a0, va_rf a1, .int a2] none h' :=
  zMet.of (by decide +kernel) (fun v hv => by simp only [List.mem_cons, List.not_mem_nil, or_false] at hv; rcases hv with rfl | rfl | rfl <;> first | rfl | exact va_rf_cat _) (Nat.le_of_ble_eq_true rfl) (fun p e s m args below meth c ls F hi hl hW hS => kX7_mark_w F a0 a1 a2 h hf s.heap [] ls hl hW hS)
set_option maxRecDepth 100000 in
set_option maxHeartbeats 4000000 in
theorem kX7_come_w (N : Nat) (F : zF p s m args meth c cX7_come 6 RX7 none) {h' : zH} (a0 : Option Nat) (a1 : Option Nat) (a2 : Int32) (a3 : Int32) (h : zH) (hf : fX7_come N a0 a1 a2 a3 h = some h') (H : Heap) (locs : List Loc) (ls : Array Slot) (hl : zhas ls 6 [(0, va_rf a0), (1, va_rf a1), (2, .int a2), (3, .int a3)]) (hW : z_W D base s h H) (hS : va_S (zA base) s.heap H locs) : W p l e rmX7_come s m args below meth c H locs 0 0 (MQ below (zQ D base none h') args s rmX7_come.cells rmX7_come.slots (zA base)) (F0 m 0 ls []) := by
  obtain ⟨hx, hb, hml, hown, hts, hret, hlk, hZ⟩ := id F
  unfold fX7_come at hf
  refine zw_aload_n hx hb dX7_come_0 rfl (lv_at hl.1 1 rfl) ?_
  refine lv_iload_n hx hb dX7_come_1 rfl (lv_at hl.1 3 rfl) ?_
  obtain ⟨a901, j1, hf⟩ := ob hf
  obtain ⟨q1, e1, hf⟩ := ob hf
  refine zw_callV (rest := []) (n := 1) F (kX3_instructionAt (r := q1.1) (h' := q1.2) l D base a1 a3 h e1) 3 rfl (by decide) j1 wd_394 wd_395 wd_396 wd_9 wd_397 (by decide +kernel) ⟨by decide, by decide⟩ hW hS rfl hl.1.1 (by decide) rfl ⟨(by decide), (by decide)⟩ dX7_come_2 (fun H locs hW hS => ?_)
  refine W.eq (g2 := F0 m 5 ls [va_rf q1.1]) rfl ?_
  refine zl_astore (lv' := [(4, va_rf q1.1), (0, va_rf a0), (1, va_rf a1), (2, .int a2), (3, .int a3)]) hx hb dX7_come_5 hl (by decide) rfl (fun ls hl => ?_)
  refine zw_aload hx hb dX7_come_7 (lv_at hl.1 0 rfl) ?_
  refine zw_ifnonnull (tgt := 18) hx hb dX7_come_9 (by decide) (fun c2 => ?_) (fun c2 => ?_)
  · have hf := oiff c2 hf
    refine zw_aload hx hb dX7_come_18 (lv_at hl.1 0 rfl) ?_
    obtain ⟨v3, e3, hf⟩ := ob hf
    refine zw_gI hx hb hts inX1 hown hW (ci := 1) rfl (by decide) 4 (by decide) (hts _ wd_337) e3 (fun _ _ => rfl) dX7_come_20 ?_
    refine lv_if_ne (tgt := 52) hx hb dX7_come_23 (by decide) (fun c4 => ?_) (fun c4 => ?_)
    · have hf := oiff c4 hf
      refine zw_aload hx hb dX7_come_52 (lv_at hl.1 0 rfl) ?_
      obtain ⟨v5, e5, hf⟩ := ob hf
      refine zw_gR hx hb hts inX1 hown hW (ci := 1) rfl (by decide) 3 (by decide) (hts _ wd_335) e5 (fun _ _ => rfl) dX7_come_54 ?_
      refine zw_aload_n hx hb dX7_come_57 rfl (lv_at hl.1 1 rfl) ?_
      obtain ⟨v6, e6, hf⟩ := ob hf
      refine zw_gR hx hb hts inX7 hown hW (ci := 7) rfl (by decide) 1 (by decide) (hts _ wd_90) e6 (fun _ _ => rfl) dX7_come_58 ?_
      refine zw_aload_n hx hb dX7_come_61 rfl (lv_at hl.1 1 rfl) ?_
      obtain ⟨v7, e7, hf⟩ := ob hf
      refine zw_gR hx hb hts inX7 hown hW (ci := 7) rfl (by decide) 0 (by decide) (hts _ wd_89) e7 (fun _ _ => rfl) dX7_come_62 ?_
      obtain ⟨a908, j8, hf⟩ := ob hf
      obtain ⟨q8, e8, hf⟩ := ob hf
      refine zw_callV (rest := []) (n := 2) F (kX4_meet (r := q8.1) (h' := q8.2) l D base N v5 v6 v7 q1.2 e8) 4 rfl (by decide) j8 wd_418 wd_419 wd_420 wd_4 wd_421 (by decide +kernel) ⟨by decide, by decide⟩ hW hS rfl hl.1.1 (by decide) rfl ⟨(by decide), (by decide)⟩ dX7_come_65 (fun H locs hW hS => ?_)
      refine W.eq (g2 := F0 m 68 ls [.int q8.1]) rfl ?_
      refine zl_istore (lv' := [(5, .int q8.1), (4, va_rf q1.1), (0, va_rf a0), (1, va_rf a1), (2, .int a2), (3, .int a3)]) hx hb dX7_come_68 hl (by decide) rfl (fun ls hl => ?_)
      refine lv_iload hx hb dX7_come_70 (lv_at hl.1 0 rfl) ?_
      refine lv_iconst (v := 2) hx hb dX7_come_72 (by decide) ?_
      refine lv_icmp_ne (tgt := 84) hx hb dX7_come_73 (by decide) (fun c9 => ?_) (fun c9 => ?_)
      · have hf := oiff c9 hf
        refine lv_iload hx hb dX7_come_84 (lv_at hl.1 0 rfl) ?_
        refine lv_iconst (v := 1) hx hb dX7_come_86 (by decide) ?_
        refine lv_icmp_ne (tgt := 97) hx hb dX7_come_87 (by decide) (fun c10 => ?_) (fun c10 => ?_)
        · have hf := oiff c10 hf
          obtain rfl := oretv hf
          exact zw_vreturn F hW hS dX7_come_97
        · have hf := oift c10 hf
          refine zw_aload_n hx hb dX7_come_90 rfl (lv_at hl.1 2 rfl) ?_
          refine zw_aload hx hb dX7_come_91 (lv_at hl.1 1 rfl) ?_
          refine lv_iload_n hx hb dX7_come_93 rfl (lv_at hl.1 5 rfl) ?_
          obtain ⟨a911, j11, hf⟩ := ob hf
          obtain ⟨h11, e11, hf⟩ := ob hf
          refine zw_callV (rest := []) (n := 2) F (kX7_mark l D base a0 q1.1 a3 q8.2 e11) 7 rfl (by decide) j11 wd_411 wd_413 ws_3 wd_3 wd_414 (by decide +kernel) ⟨by decide, by decide⟩ hW hS rfl hl.1.1 (by decide) rfl ⟨(by decide), (by decide)⟩ dX7_come_94 (fun H locs hW hS => ?_)
          refine W.eq (g2 := F0 m 97 ls []) rfl ?_
          obtain rfl := oretv hf
          exact zw_vreturn F hW hS dX7_come_97
      · have hf := oift c9 hf
        refine zw_aload_n hx hb dX7_come_76 rfl (lv_at hl.1 2 rfl) ?_
        refine lv_iload_n hx hb dX7_come_77 rfl (lv_at hl.1 5 rfl) ?_
        obtain ⟨h12, e12, hf⟩ := ob hf
        refine zw_pI hx hb hts inX7 tyX7 tyX7_ok nmX7 hown hW hS (ci := 7) rfl (by decide) 4 (by decide) (hts _ wd_93) (Or.inl rfl) (fun _ _ => rfl) rfl rfl e12 dX7_come_78 (fun H locs hW hS => ?_)
        refine lv_goto (tgt := 97) hx hb dX7_come_81 (by decide) ?_
        obtain rfl := oretv hf
        exact zw_vreturn F hW hS dX7_come_97
    · have hf := oift c4 hf
      refine zw_aload hx hb dX7_come_26 (lv_at hl.1 0 rfl) ?_
      refine lv_iconst (v := 1) hx hb dX7_come_28 (by decide) ?_
      obtain ⟨h13, e13, hf⟩ := ob hf
      obtain ⟨b13, e13⟩ := pZ_spec e13
      refine zw_pI hx hb hts inX1 tyX1 tyX1_ok nmX1 hown hW hS (ci := 1) rfl (by decide) 4 (by decide) (hts _ wd_337) (Or.inl rfl) (fun _ _ => rfl) (z_bool b13).1 (z_bool b13).2 e13 dX7_come_29 (fun H locs hW hS => ?_)
      refine zw_aload hx hb dX7_come_32 (lv_at hl.1 0 rfl) ?_
      obtain ⟨v14, e14, hf⟩ := ob hf
      refine zw_gR hx hb hts inX1 hown hW (ci := 1) rfl (by decide) 3 (by decide) (hts _ wd_335) e14 (fun _ _ => rfl) dX7_come_34 ?_
      refine zw_aload_n hx hb dX7_come_37 rfl (lv_at hl.1 1 rfl) ?_
      obtain ⟨v15, e15, hf⟩ := ob hf
      refine zw_gR hx hb hts inX7 hown hW (ci := 7) rfl (by decide) 1 (by decide) (hts _ wd_90) e15 (fun _ _ => rfl) dX7_come_38 ?_
      obtain ⟨a916, j16, hf⟩ := ob hf
      obtain ⟨h16, e16, hf⟩ := ob hf
      refine zw_callV (rest := []) (n := 1) F (kX4_copy l D base N v14 v15 h13 e16) 4 rfl (by decide) j16 wd_407 wd_408 wd_409 wd_4 wd_410 (by decide +kernel) ⟨by decide, by decide⟩ hW hS rfl hl.1.1 (by decide) rfl ⟨(by decide), (by decide)⟩ dX7_come_41 (fun H locs hW hS => ?_)
      refine W.eq (g2 := F0 m 44 ls []) rfl ?_
      refine zw_aload_n hx hb dX7_come_44 rfl (lv_at hl.1 1 rfl) ?_
      refine zw_aload hx hb dX7_come_45 (lv_at hl.1 0 rfl) ?_
      refine lv_iload_n hx hb dX7_come_47 rfl (lv_at hl.1 4 rfl) ?_
      obtain ⟨a917, j17, hf⟩ := ob hf
      obtain ⟨h17, e17, hf⟩ := ob hf
      refine zw_callV (rest := []) (n := 2) F (kX7_mark l D base a0 q1.1 a3 h16 e17) 7 rfl (by decide) j17 wd_411 wd_413 ws_3 wd_3 wd_414 (by decide +kernel) ⟨by decide, by decide⟩ hW hS rfl hl.1.1 (by decide) rfl ⟨(by decide), (by decide)⟩ dX7_come_48 (fun H locs hW hS => ?_)
      refine W.eq (g2 := F0 m 51 ls []) rfl ?_
      obtain rfl := oretv hf
      exact zw_vreturn F hW hS dX7_come_51
  · have hf := oift c2 hf
    refine zw_aload_n hx hb dX7_come_12 rfl (lv_at hl.1 1 rfl) ?_
    refine lv_iload_n hx hb dX7_come_13 rfl (lv_at hl.1 3 rfl) ?_
    obtain ⟨h18, e18, hf⟩ := ob hf
    refine zw_pI hx hb hts inX7 tyX7 tyX7_ok nmX7 hown hW hS (ci := 7) rfl (by decide) 4 (by decide) (hts _ wd_93) (Or.inl rfl) (fun _ _ => rfl) rfl rfl e18 dX7_come_14 (fun H locs hW hS => ?_)
    obtain rfl := oretv hf
    exact zw_vreturn F hW hS dX7_come_17
set_option maxRecDepth 100000 in
set_option maxHeartbeats 4000000 in
theorem kX7_come (l : Launch) (D : va_G) (base : Nat) (N : Nat) (a0 : Option Nat) (a1 : Option Nat) (a2 : Int32) (a3 : Int32) (h : zH) {h' : zH} (hf : fX7_come N a0 a1 a2 a3 h = some h') : zMet l D base yX7_come cX7_come 6 none rmX7_come h [va_rf a0, va_rf a1, .int a2, .int a3] none h' :=
  zMet.of (by decide +kernel) (fun v hv => by simp only [List.mem_cons, List.not_mem_nil, or_false] at hv; rcases hv with rfl | rfl | rfl | rfl <;> first | rfl | exact va_rf_cat _) (Nat.le_of_ble_eq_true rfl) (fun p e s m args below meth c ls F hi hl hW hS => kX7_come_w N F a0 a1 a2 a3 h hf s.heap [] ls hl hW hS)
set_option maxRecDepth 100000 in
set_option maxHeartbeats 4000000 in
theorem kX7_begin_b45 (N : Nat) {h' : zH} (k17 : Option Nat → Option Nat → Int32 → zH → Option (zH)) (hk17 : ∀ (l0 : Option Nat) (l1 : Option Nat) (l2 : Int32) (h : zH), k17 l0 l1 l2 h = some h' → ∀ (H : Heap) (locs : List Loc) (ls : Array Slot), zhas ls 4 [(0, va_rf l0), (1, va_rf l1), (2, .int l2)] → z_W D base s h H → va_S (zA base) s.heap H locs → W p l e rmX7_begin s m args below meth c H locs 0 0 (MQ below (zQ D base none h') args s rmX7_begin.cells rmX7_begin.slots (zA base)) (F0 m 17 ls [])) (F : zF p s m args meth c cX7_begin 4 RX7 none) (l0 : Option Nat) (l1 : Option Nat) (l2 : Int32) (h : zH) (hf : fX7_begin_b45 N k17 l0 l1 l2 h = some h') (H : Heap) (locs : List Loc) (ls : Array Slot) (hl : zhas ls 4 [(0, va_rf l0), (1, va_rf l1), (2, .int l2)]) (hW : z_W D base s h H) (hS : va_S (zA base) s.heap H locs) : W p l e rmX7_begin s m args below meth c H locs 0 0 (MQ below (zQ D base none h') args s rmX7_begin.cells rmX7_begin.slots (zA base)) (F0 m 45 ls []) := by
  obtain ⟨hx, hb, hml, hown, hts, hret, hlk, hZ⟩ := id F
  unfold fX7_begin_b45 at hf
  refine zl_iinc (v := (l2 + 1)) (lv' := [(2, .int (l2 + 1)), (0, va_rf l0), (1, va_rf l1)]) hx hb dX7_begin_45 hl (k := 2) rfl rfl (by decide) rfl (fun ls hl => ?_)
  refine lv_goto (tgt := 17) hx hb dX7_begin_48 (by decide) ?_
  exact hk17 l0 l1 (l2 + 1) h hf H locs ls (z_sub hl [1, 2, 0] rfl) hW hS
set_option maxRecDepth 100000 in
set_option maxHeartbeats 4000000 in
theorem kX7_begin_b17 (N : Nat) {h' : zH} (F : zF p s m args meth c cX7_begin 4 RX7 none) : ∀ (n : Nat) (l0 : Option Nat) (l1 : Option Nat) (l2 : Int32) (h : zH), fX7_begin_b17 N n l0 l1 l2 h = some h' → ∀ (H : Heap) (locs : List Loc) (ls : Array Slot), zhas ls 4 [(0, va_rf l0), (1, va_rf l1), (2, .int l2)] → z_W D base s h H → va_S (zA base) s.heap H locs → W p l e rmX7_begin s m args below meth c H locs 0 0 (MQ below (zQ D base none h') args s rmX7_begin.cells rmX7_begin.slots (zA base)) (F0 m 17 ls []) := by
  obtain ⟨hx, hb, hml, hown, hts, hret, hlk, hZ⟩ := id F
  intro n
  induction n with
  | zero =>
    intro l0 l1 l2 h hf
    rw [fX7_begin_b17] at hf
    cases hf
  | succ n ih =>
    intro l0 l1 l2 h hf H locs ls hl hW hS
    rw [fX7_begin_b17] at hf
    refine lv_iload_n hx hb dX7_begin_17 rfl (lv_at hl.1 2 rfl) ?_
    refine zw_aload_n hx hb dX7_begin_18 rfl (lv_at hl.1 1 rfl) ?_
    obtain ⟨v1, e1, hf⟩ := ob hf
    refine zw_gI hx hb hts inX3 hown hW (ci := 3) rfl (by decide) 8 (by decide) (hts _ wd_225) e1 (fun _ _ => rfl) dX7_begin_19 ?_
    refine lv_icmp_ge (tgt := 51) hx hb dX7_begin_22 (by decide) (fun c2 => ?_) (fun c2 => ?_)
    · have hf := oift c2 hf
      refine zw_aload_n hx hb dX7_begin_51 rfl (lv_at hl.1 0 rfl) ?_
      refine lv_iconst (v := (-1)) hx hb dX7_begin_52 (by decide) ?_
      obtain ⟨h3, e3, hf⟩ := ob hf
      refine zw_pI hx hb hts inX7 tyX7 tyX7_ok nmX7 hown hW hS (ci := 7) rfl (by decide) 4 (by decide) (hts _ wd_93) (Or.inl rfl) (fun _ _ => rfl) rfl rfl e3 dX7_begin_53 (fun H locs hW hS => ?_)
      refine zw_aload_n hx hb dX7_begin_56 rfl (lv_at hl.1 0 rfl) ?_
      obtain ⟨v4, e4, hf⟩ := ob hf
      refine zw_gR hx hb hts inX7 hown hW (ci := 7) rfl (by decide) 1 (by decide) (hts _ wd_90) e4 (fun _ _ => rfl) dX7_begin_57 ?_
      refine zw_aload_n hx hb dX7_begin_60 rfl (lv_at hl.1 1 rfl) ?_
      obtain ⟨a905, j5, hf⟩ := ob hf
      obtain ⟨h5, e5, hf⟩ := ob hf
      refine zw_callV (rest := []) (n := 1) F (kX4_begin l D base N v4 l1 h3 e5) 4 rfl (by decide) j5 wd_398 wd_399 wd_400 wd_4 wd_401 (by decide +kernel) ⟨by decide, by decide⟩ hW hS rfl hl.1.1 (by decide) rfl ⟨(by decide), (by decide)⟩ dX7_begin_61 (fun H locs hW hS => ?_)
      refine W.eq (g2 := F0 m 64 ls []) rfl ?_
      refine zw_aload_n hx hb dX7_begin_64 rfl (lv_at hl.1 0 rfl) ?_
      refine zw_aload_n hx hb dX7_begin_65 rfl (lv_at hl.1 1 rfl) ?_
      refine lv_iconst (v := 0) hx hb dX7_begin_66 (by decide) ?_
      refine lv_iconst (v := 0) hx hb dX7_begin_67 (by decide) ?_
      obtain ⟨a906, j6, hf⟩ := ob hf
      obtain ⟨h6, e6, hf⟩ := ob hf
      refine zw_callV (rest := []) (n := 3) F (kX7_come l D base N l0 l1 0 0 h5 e6) 7 rfl (by decide) j6 wd_403 wd_405 ws_2 wd_3 wd_406 (by decide +kernel) ⟨by decide, by decide⟩ hW hS rfl hl.1.1 (by decide) rfl ⟨(by decide), (by decide)⟩ dX7_begin_68 (fun H locs hW hS => ?_)
      refine W.eq (g2 := F0 m 71 ls []) rfl ?_
      obtain rfl := oretv hf
      exact zw_vreturn F hW hS dX7_begin_71
    · have hf := oiff c2 hf
      refine zw_aload_n hx hb dX7_begin_25 rfl (lv_at hl.1 1 rfl) ?_
      refine lv_iload_n hx hb dX7_begin_26 rfl (lv_at hl.1 2 rfl) ?_
      obtain ⟨a907, j7, hf⟩ := ob hf
      obtain ⟨q7, e7, hf⟩ := ob hf
      refine zw_callV (rest := []) (n := 1) F (kX3_instructionAt (r := q7.1) (h' := q7.2) l D base l1 l2 h e7) 3 rfl (by decide) j7 wd_394 wd_395 wd_396 wd_9 wd_397 (by decide +kernel) ⟨by decide, by decide⟩ hW hS rfl hl.1.1 (by decide) rfl ⟨(by decide), (by decide)⟩ dX7_begin_27 (fun H locs hW hS => ?_)
      refine W.eq (g2 := F0 m 30 ls [va_rf q7.1]) rfl ?_
      refine zl_astore_n (lv' := [(3, va_rf q7.1), (0, va_rf l0), (1, va_rf l1), (2, .int l2)]) hx hb dX7_begin_30 rfl hl (by decide) rfl (fun ls hl => ?_)
      refine zw_aload_n hx hb dX7_begin_31 rfl (lv_at hl.1 0 rfl) ?_
      refine zw_ifnull (tgt := 45) hx hb dX7_begin_32 (by decide) (fun c8 => ?_) (fun c8 => ?_)
      · have hf := oift c8 hf
        exact kX7_begin_b45 N (fX7_begin_b17 N n) (fun l0 l1 l2 h hf H locs ls hl hW hS => ih l0 l1 l2 h hf H locs ls hl hW hS) F l0 l1 l2 q7.2 hf H locs ls (z_sub hl [1, 2, 3] rfl) hW hS
      · have hf := oiff c8 hf
        refine zw_aload_n hx hb dX7_begin_35 rfl (lv_at hl.1 0 rfl) ?_
        refine lv_iconst (v := 0) hx hb dX7_begin_36 (by decide) ?_
        obtain ⟨h9, e9, hf⟩ := ob hf
        obtain ⟨b9, e9⟩ := pZ_spec e9
        refine zw_pI hx hb hts inX1 tyX1 tyX1_ok nmX1 hown hW hS (ci := 1) rfl (by decide) 4 (by decide) (hts _ wd_337) (Or.inl rfl) (fun _ _ => rfl) (z_bool b9).1 (z_bool b9).2 e9 dX7_begin_37 (fun H locs hW hS => ?_)
        refine zw_aload_n hx hb dX7_begin_40 rfl (lv_at hl.1 0 rfl) ?_
        refine lv_iconst (v := 0) hx hb dX7_begin_41 (by decide) ?_
        obtain ⟨h10, e10, hf⟩ := ob hf
        obtain ⟨b10, e10⟩ := pZ_spec e10
        refine zw_pI hx hb hts inX1 tyX1 tyX1_ok nmX1 hown hW hS (ci := 1) rfl (by decide) 5 (by decide) (hts _ wd_339) (Or.inl rfl) (fun _ _ => rfl) (z_bool b10).1 (z_bool b10).2 e10 dX7_begin_42 (fun H locs hW hS => ?_)
        exact kX7_begin_b45 N (fX7_begin_b17 N n) (fun l0 l1 l2 h hf H locs ls hl hW hS => ih l0 l1 l2 h hf H locs ls hl hW hS) F l0 l1 l2 h10 hf H locs ls (z_sub hl [1, 2, 3] rfl) hW hS
set_option maxRecDepth 100000 in
set_option maxHeartbeats 4000000 in
theorem kX7_begin_w (N : Nat) (F : zF p s m args meth c cX7_begin 4 RX7 none) {h' : zH} (a0 : Option Nat) (a1 : Option Nat) (h : zH) (hf : fX7_begin N a0 a1 h = some h') (H : Heap) (locs : List Loc) (ls : Array Slot) (hl : zhas ls 4 [(0, va_rf a0), (1, va_rf a1)]) (hW : z_W D base s h H) (hS : va_S (zA base) s.heap H locs) : W p l e rmX7_begin s m args below meth c H locs 0 0 (MQ below (zQ D base none h') args s rmX7_begin.cells rmX7_begin.slots (zA base)) (F0 m 0 ls []) := by
  obtain ⟨hx, hb, hml, hown, hts, hret, hlk, hZ⟩ := id F
  unfold fX7_begin at hf
  refine zw_aload_n hx hb dX7_begin_0 rfl (lv_at hl.1 0 rfl) ?_
  refine lv_iconst (v := 0) hx hb dX7_begin_1 (by decide) ?_
  obtain ⟨h1, e1, hf⟩ := ob hf
  refine zw_pI hx hb hts inX7 tyX7 tyX7_ok nmX7 hown hW hS (ci := 7) rfl (by decide) 5 (by decide) (hts _ wd_94) (Or.inl rfl) (fun _ _ => rfl) rfl rfl e1 dX7_begin_2 (fun H locs hW hS => ?_)
  refine zw_aload_n hx hb dX7_begin_5 rfl (lv_at hl.1 0 rfl) ?_
  refine lv_iconst (v := 0) hx hb dX7_begin_6 (by decide) ?_
  obtain ⟨h2, e2, hf⟩ := ob hf
  refine zw_pI hx hb hts inX7 tyX7 tyX7_ok nmX7 hown hW hS (ci := 7) rfl (by decide) 3 (by decide) (hts _ wd_92) (Or.inl rfl) (fun _ _ => rfl) rfl rfl e2 dX7_begin_7 (fun H locs hW hS => ?_)
  refine zw_aload_n hx hb dX7_begin_10 rfl (lv_at hl.1 1 rfl) ?_
  refine lv_iconst (v := 1) hx hb dX7_begin_11 (by decide) ?_
  obtain ⟨h3, e3, hf⟩ := ob hf
  obtain ⟨b3, e3⟩ := pZ_spec e3
  refine zw_pI hx hb hts inX3 tyX3 tyX3_ok nmX3 hown hW hS (ci := 3) rfl (by decide) 11 (by decide) (hts _ wd_230) (Or.inl rfl) (fun _ _ => rfl) (z_bool b3).1 (z_bool b3).2 e3 dX7_begin_12 (fun H locs hW hS => ?_)
  refine lv_iconst (v := 0) hx hb dX7_begin_15 (by decide) ?_
  refine zl_istore_n (lv' := [(2, .int 0), (0, va_rf a0), (1, va_rf a1)]) hx hb dX7_begin_16 rfl hl (by decide) rfl (fun ls hl => ?_)
  exact kX7_begin_b17 N F N a0 a1 0 h3 hf H locs ls (z_sub hl [1, 2, 0] rfl) hW hS
set_option maxRecDepth 100000 in
set_option maxHeartbeats 4000000 in
theorem kX7_begin (l : Launch) (D : va_G) (base : Nat) (N : Nat) (a0 : Option Nat) (a1 : Option Nat) (h : zH) {h' : zH} (hf : fX7_begin N a0 a1 h = some h') : zMet l D base yX7_begin cX7_begin 4 none rmX7_begin h [va_rf a0, va_rf a1] none h' :=
  zMet.of (by decide +kernel) (fun v hv => by simp only [List.mem_cons, List.not_mem_nil, or_false] at hv; rcases hv with rfl | rfl <;> first | rfl | exact va_rf_cat _) (Nat.le_of_ble_eq_true rfl) (fun p e s m args below meth c ls F hi hl hW hS => kX7_begin_w N F a0 a1 h hf s.heap [] ls hl hW hS)
set_option maxRecDepth 100000 in
set_option maxHeartbeats 4000000 in
theorem kX7_leastMarked_b37 (N : Nat) {r : Int32} {h' : zH} (k5 : Option Nat → Option Nat → Int32 → zH → Option (Int32 × zH)) (hk5 : ∀ (l0 : Option Nat) (l1 : Option Nat) (l2 : Int32) (h : zH), k5 l0 l1 l2 h = some (r, h') → ∀ (H : Heap) (locs : List Loc) (ls : Array Slot), zhas ls 4 [(0, va_rf l0), (1, va_rf l1), (2, .int l2)] → z_W D base s h H → va_S (zA base) s.heap H locs → W p l e rmX7_leastMarked s m args below meth c H locs 0 0 (MQ below (zQ D base (some (.int r)) h') args s rmX7_leastMarked.cells rmX7_leastMarked.slots (zA base)) (F0 m 5 ls [])) (F : zF p s m args meth c cX7_leastMarked 4 RX7 (some .int)) (l0 : Option Nat) (l1 : Option Nat) (l2 : Int32) (h : zH) (hf : fX7_leastMarked_b37 N k5 l0 l1 l2 h = some (r, h')) (H : Heap) (locs : List Loc) (ls : Array Slot) (hl : zhas ls 4 [(0, va_rf l0), (1, va_rf l1), (2, .int l2)]) (hW : z_W D base s h H) (hS : va_S (zA base) s.heap H locs) : W p l e rmX7_leastMarked s m args below meth c H locs 0 0 (MQ below (zQ D base (some (.int r)) h') args s rmX7_leastMarked.cells rmX7_leastMarked.slots (zA base)) (F0 m 37 ls []) := by
  obtain ⟨hx, hb, hml, hown, hts, hret, hlk, hZ⟩ := id F
  unfold fX7_leastMarked_b37 at hf
  refine zl_iinc (v := (l2 + 1)) (lv' := [(2, .int (l2 + 1)), (0, va_rf l0), (1, va_rf l1)]) hx hb dX7_leastMarked_37 hl (k := 2) rfl rfl (by decide) rfl (fun ls hl => ?_)
  refine lv_goto (tgt := 5) hx hb dX7_leastMarked_40 (by decide) ?_
  exact hk5 l0 l1 (l2 + 1) h hf H locs ls (z_sub hl [1, 2, 0] rfl) hW hS
set_option maxRecDepth 100000 in
set_option maxHeartbeats 4000000 in
theorem kX7_leastMarked_b5 (N : Nat) {r : Int32} {h' : zH} (F : zF p s m args meth c cX7_leastMarked 4 RX7 (some .int)) : ∀ (n : Nat) (l0 : Option Nat) (l1 : Option Nat) (l2 : Int32) (h : zH), fX7_leastMarked_b5 N n l0 l1 l2 h = some (r, h') → ∀ (H : Heap) (locs : List Loc) (ls : Array Slot), zhas ls 4 [(0, va_rf l0), (1, va_rf l1), (2, .int l2)] → z_W D base s h H → va_S (zA base) s.heap H locs → W p l e rmX7_leastMarked s m args below meth c H locs 0 0 (MQ below (zQ D base (some (.int r)) h') args s rmX7_leastMarked.cells rmX7_leastMarked.slots (zA base)) (F0 m 5 ls []) := by
  obtain ⟨hx, hb, hml, hown, hts, hret, hlk, hZ⟩ := id F
  intro n
  induction n with
  | zero =>
    intro l0 l1 l2 h hf
    rw [fX7_leastMarked_b5] at hf
    cases hf
  | succ n ih =>
    intro l0 l1 l2 h hf H locs ls hl hW hS
    rw [fX7_leastMarked_b5] at hf
    refine lv_iload_n hx hb dX7_leastMarked_5 rfl (lv_at hl.1 2 rfl) ?_
    refine zw_aload_n hx hb dX7_leastMarked_6 rfl (lv_at hl.1 1 rfl) ?_
    obtain ⟨v1, e1, hf⟩ := ob hf
    refine zw_gI hx hb hts inX3 hown hW (ci := 3) rfl (by decide) 8 (by decide) (hts _ wd_225) e1 (fun _ _ => rfl) dX7_leastMarked_7 ?_
    refine lv_icmp_ge (tgt := 43) hx hb dX7_leastMarked_10 (by decide) (fun c2 => ?_) (fun c2 => ?_)
    · have hf := oift c2 hf
      refine lv_iconst (v := (-1)) hx hb dX7_leastMarked_43 (by decide) ?_
      obtain ⟨rfl, rfl⟩ := oret hf
      exact zw_ireturn F hW hS dX7_leastMarked_44
    · have hf := oiff c2 hf
      refine zw_aload_n hx hb dX7_leastMarked_13 rfl (lv_at hl.1 1 rfl) ?_
      refine lv_iload_n hx hb dX7_leastMarked_14 rfl (lv_at hl.1 2 rfl) ?_
      obtain ⟨a903, j3, hf⟩ := ob hf
      obtain ⟨q3, e3, hf⟩ := ob hf
      refine zw_callV (rest := []) (n := 1) F (kX3_instructionAt (r := q3.1) (h' := q3.2) l D base l1 l2 h e3) 3 rfl (by decide) j3 wd_394 wd_395 wd_396 wd_9 wd_397 (by decide +kernel) ⟨by decide, by decide⟩ hW hS rfl hl.1.1 (by decide) rfl ⟨(by decide), (by decide)⟩ dX7_leastMarked_15 (fun H locs hW hS => ?_)
      refine W.eq (g2 := F0 m 18 ls [va_rf q3.1]) rfl ?_
      refine zl_astore_n (lv' := [(3, va_rf q3.1), (0, va_rf l0), (1, va_rf l1), (2, .int l2)]) hx hb dX7_leastMarked_18 rfl hl (by decide) rfl (fun ls hl => ?_)
      refine zw_aload_n hx hb dX7_leastMarked_19 rfl (lv_at hl.1 0 rfl) ?_
      refine zw_ifnull (tgt := 37) hx hb dX7_leastMarked_20 (by decide) (fun c4 => ?_) (fun c4 => ?_)
      · have hf := oift c4 hf
        exact kX7_leastMarked_b37 N (fX7_leastMarked_b5 N n) (fun l0 l1 l2 h hf H locs ls hl hW hS => ih l0 l1 l2 h hf H locs ls hl hW hS) F l0 l1 l2 q3.2 hf H locs ls (z_sub hl [1, 2, 3] rfl) hW hS
      · have hf := oiff c4 hf
        refine zw_aload_n hx hb dX7_leastMarked_23 rfl (lv_at hl.1 0 rfl) ?_
        obtain ⟨v5, e5, hf⟩ := ob hf
        refine zw_gI hx hb hts inX1 hown hW (ci := 1) rfl (by decide) 5 (by decide) (hts _ wd_339) e5 (fun _ _ => rfl) dX7_leastMarked_24 ?_
        refine lv_if_eq (tgt := 37) hx hb dX7_leastMarked_27 (by decide) (fun c6 => ?_) (fun c6 => ?_)
        · have hf := oift c6 hf
          exact kX7_leastMarked_b37 N (fX7_leastMarked_b5 N n) (fun l0 l1 l2 h hf H locs ls hl hW hS => ih l0 l1 l2 h hf H locs ls hl hW hS) F l0 l1 l2 q3.2 hf H locs ls (z_sub hl [1, 2, 3] rfl) hW hS
        · have hf := oiff c6 hf
          refine zw_aload_n hx hb dX7_leastMarked_30 rfl (lv_at hl.1 1 rfl) ?_
          refine lv_iload_n hx hb dX7_leastMarked_31 rfl (lv_at hl.1 3 rfl) ?_
          obtain ⟨h7, e7, hf⟩ := ob hf
          refine zw_pI hx hb hts inX7 tyX7 tyX7_ok nmX7 hown hW hS (ci := 7) rfl (by decide) 3 (by decide) (hts _ wd_92) (Or.inl rfl) (fun _ _ => rfl) rfl rfl e7 dX7_leastMarked_32 (fun H locs hW hS => ?_)
          refine lv_iload_n hx hb dX7_leastMarked_35 rfl (lv_at hl.1 3 rfl) ?_
          obtain ⟨rfl, rfl⟩ := oret hf
          exact zw_ireturn F hW hS dX7_leastMarked_36
set_option maxRecDepth 100000 in
set_option maxHeartbeats 4000000 in
theorem kX7_leastMarked_w (N : Nat) (F : zF p s m args meth c cX7_leastMarked 4 RX7 (some .int)) {r : Int32} {h' : zH} (a0 : Option Nat) (a1 : Option Nat) (h : zH) (hf : fX7_leastMarked N a0 a1 h = some (r, h')) (H : Heap) (locs : List Loc) (ls : Array Slot) (hl : zhas ls 4 [(0, va_rf a0), (1, va_rf a1)]) (hW : z_W D base s h H) (hS : va_S (zA base) s.heap H locs) : W p l e rmX7_leastMarked s m args below meth c H locs 0 0 (MQ below (zQ D base (some (.int r)) h') args s rmX7_leastMarked.cells rmX7_leastMarked.slots (zA base)) (F0 m 0 ls []) := by
  obtain ⟨hx, hb, hml, hown, hts, hret, hlk, hZ⟩ := id F
  unfold fX7_leastMarked at hf
  refine zw_aload_n hx hb dX7_leastMarked_0 rfl (lv_at hl.1 0 rfl) ?_
  obtain ⟨v1, e1, hf⟩ := ob hf
  refine zw_gI hx hb hts inX7 hown hW (ci := 7) rfl (by decide) 3 (by decide) (hts _ wd_92) e1 (fun _ _ => rfl) dX7_leastMarked_1 ?_
  refine zl_istore_n (lv' := [(2, .int v1), (0, va_rf a0), (1, va_rf a1)]) hx hb dX7_leastMarked_4 rfl hl (by decide) rfl (fun ls hl => ?_)
  exact kX7_leastMarked_b5 N F N a0 a1 v1 h hf H locs ls (z_sub hl [1, 2, 0] rfl) hW hS
set_option maxRecDepth 100000 in
set_option maxHeartbeats 4000000 in
theorem kX7_leastMarked (l : Launch) (D : va_G) (base : Nat) (N : Nat) (a0 : Option Nat) (a1 : Option Nat) (h : zH) {r : Int32} {h' : zH} (hf : fX7_leastMarked N a0 a1 h = some (r, h')) : zMet l D base yX7_leastMarked cX7_leastMarked 4 (some .int) rmX7_leastMarked h [va_rf a0, va_rf a1] (some (.int r)) h' :=
  zMet.of (by decide +kernel) (fun v hv => by simp only [List.mem_cons, List.not_mem_nil, or_false] at hv; rcases hv with rfl | rfl <;> first | rfl | exact va_rf_cat _) (Nat.le_of_ble_eq_true rfl) (fun p e s m args below meth c ls F hi hl hW hS => kX7_leastMarked_w N F a0 a1 h hf s.heap [] ls hl hW hS)
set_option maxRecDepth 100000 in
set_option maxHeartbeats 4000000 in
theorem kX7_comeToHandlers_b100 (N : Nat) {h' : zH} (k3 : Option Nat → Option Nat → Int32 → Option Nat → Int32 → zH → Option (zH)) (hk3 : ∀ (l0 : Option Nat) (l1 : Option Nat) (l2 : Int32) (l3 : Option Nat) (l4 : Int32) (h : zH), k3 l0 l1 l2 l3 l4 h = some h' → ∀ (H : Heap) (locs : List Loc) (ls : Array Slot), zhas ls 6 [(0, va_rf l0), (1, va_rf l1), (2, .int l2), (3, va_rf l3), (4, .int l4)] → z_W D base s h H → va_S (zA base) s.heap H locs → W p l e rmX7_comeToHandlers s m args below meth c H locs 0 0 (MQ below (zQ D base none h') args s rmX7_comeToHandlers.cells rmX7_comeToHandlers.slots (zA base)) (F0 m 3 ls [])) (F : zF p s m args meth c cX7_comeToHandlers 6 RX7 none) (l0 : Option Nat) (l1 : Option Nat) (l2 : Int32) (l3 : Option Nat) (l4 : Int32) (h : zH) (hf : fX7_comeToHandlers_b100 N k3 l0 l1 l2 l3 l4 h = some h') (H : Heap) (locs : List Loc) (ls : Array Slot) (hl : zhas ls 6 [(0, va_rf l0), (1, va_rf l1), (2, .int l2), (3, va_rf l3), (4, .int l4)]) (hW : z_W D base s h H) (hS : va_S (zA base) s.heap H locs) : W p l e rmX7_comeToHandlers s m args below meth c H locs 0 0 (MQ below (zQ D base none h') args s rmX7_comeToHandlers.cells rmX7_comeToHandlers.slots (zA base)) (F0 m 100 ls []) := by
  obtain ⟨hx, hb, hml, hown, hts, hret, hlk, hZ⟩ := id F
  unfold fX7_comeToHandlers_b100 at hf
  refine zl_iinc (v := (l4 + 1)) (lv' := [(4, .int (l4 + 1)), (0, va_rf l0), (1, va_rf l1), (2, .int l2), (3, va_rf l3)]) hx hb dX7_comeToHandlers_100 hl (k := 4) rfl rfl (by decide) rfl (fun ls hl => ?_)
  refine lv_goto (tgt := 3) hx hb dX7_comeToHandlers_103 (by decide) ?_
  exact hk3 l0 l1 l2 l3 (l4 + 1) h hf H locs ls (z_sub hl [1, 2, 3, 4, 0] rfl) hW hS
set_option maxRecDepth 100000 in
set_option maxHeartbeats 4000000 in
theorem kX7_comeToHandlers_b3 (N : Nat) {h' : zH} (F : zF p s m args meth c cX7_comeToHandlers 6 RX7 none) : ∀ (n : Nat) (l0 : Option Nat) (l1 : Option Nat) (l2 : Int32) (l3 : Option Nat) (l4 : Int32) (h : zH), fX7_comeToHandlers_b3 N n l0 l1 l2 l3 l4 h = some h' → ∀ (H : Heap) (locs : List Loc) (ls : Array Slot), zhas ls 6 [(0, va_rf l0), (1, va_rf l1), (2, .int l2), (3, va_rf l3), (4, .int l4)] → z_W D base s h H → va_S (zA base) s.heap H locs → W p l e rmX7_comeToHandlers s m args below meth c H locs 0 0 (MQ below (zQ D base none h') args s rmX7_comeToHandlers.cells rmX7_comeToHandlers.slots (zA base)) (F0 m 3 ls []) := by
  obtain ⟨hx, hb, hml, hown, hts, hret, hlk, hZ⟩ := id F
  intro n
  induction n with
  | zero =>
    intro l0 l1 l2 l3 l4 h hf
    rw [fX7_comeToHandlers_b3] at hf
    cases hf
  | succ n ih =>
    intro l0 l1 l2 l3 l4 h hf H locs ls hl hW hS
    rw [fX7_comeToHandlers_b3] at hf
    refine lv_iload hx hb dX7_comeToHandlers_3 (lv_at hl.1 4 rfl) ?_
    refine zw_aload_n hx hb dX7_comeToHandlers_5 rfl (lv_at hl.1 1 rfl) ?_
    obtain ⟨v1, e1, hf⟩ := ob hf
    refine zw_gI hx hb hts inX3 hown hW (ci := 3) rfl (by decide) 9 (by decide) (hts _ wd_226) e1 (fun _ _ => rfl) dX7_comeToHandlers_6 ?_
    refine lv_icmp_ge (tgt := 106) hx hb dX7_comeToHandlers_9 (by decide) (fun c2 => ?_) (fun c2 => ?_)
    · have hf := oift c2 hf
      obtain rfl := oretv hf
      exact zw_vreturn F hW hS dX7_comeToHandlers_106
    · have hf := oiff c2 hf
      refine zw_aload_n hx hb dX7_comeToHandlers_12 rfl (lv_at hl.1 0 rfl) ?_
      obtain ⟨v3, e3, hf⟩ := ob hf
      refine zw_gI hx hb hts inX7 hown hW (ci := 7) rfl (by decide) 4 (by decide) (hts _ wd_93) e3 (fun _ _ => rfl) dX7_comeToHandlers_13 ?_
      refine lv_iconst (v := (-1)) hx hb dX7_comeToHandlers_16 (by decide) ?_
      refine lv_icmp_ne (tgt := 106) hx hb dX7_comeToHandlers_17 (by decide) (fun c4 => ?_) (fun c4 => ?_)
      · have hf := oiff c4 hf
        obtain rfl := oretv hf
        exact zw_vreturn F hW hS dX7_comeToHandlers_106
      · have hf := oift c4 hf
        refine zw_aload_n hx hb dX7_comeToHandlers_20 rfl (lv_at hl.1 1 rfl) ?_
        refine lv_iload hx hb dX7_comeToHandlers_21 (lv_at hl.1 4 rfl) ?_
        obtain ⟨a905, j5, hf⟩ := ob hf
        obtain ⟨q5, e5, hf⟩ := ob hf
        refine zw_callV (rest := []) (n := 1) F (kX3_handlerAt (r := q5.1) (h' := q5.2) l D base l1 l4 h e5) 3 rfl (by decide) j5 wd_445 wd_446 wd_447 wd_9 wd_448 (by decide +kernel) ⟨by decide, by decide⟩ hW hS rfl hl.1.1 (by decide) rfl ⟨(by decide), (by decide)⟩ dX7_comeToHandlers_23 (fun H locs hW hS => ?_)
        refine W.eq (g2 := F0 m 26 ls [va_rf q5.1]) rfl ?_
        refine zl_astore (lv' := [(5, va_rf q5.1), (0, va_rf l0), (1, va_rf l1), (2, .int l2), (3, va_rf l3), (4, .int l4)]) hx hb dX7_comeToHandlers_26 hl (by decide) rfl (fun ls hl => ?_)
        refine zw_aload hx hb dX7_comeToHandlers_28 (lv_at hl.1 0 rfl) ?_
        refine zw_ifnull (tgt := 100) hx hb dX7_comeToHandlers_30 (by decide) (fun c6 => ?_) (fun c6 => ?_)
        · have hf := oift c6 hf
          exact kX7_comeToHandlers_b100 N (fX7_comeToHandlers_b3 N n) (fun l0 l1 l2 l3 l4 h hf H locs ls hl hW hS => ih l0 l1 l2 l3 l4 h hf H locs ls hl hW hS) F l0 l1 l2 l3 l4 q5.2 hf H locs ls (z_sub hl [1, 2, 3, 4, 5] rfl) hW hS
        · have hf := oiff c6 hf
          refine zw_aload hx hb dX7_comeToHandlers_33 (lv_at hl.1 0 rfl) ?_
          refine lv_iload_n hx hb dX7_comeToHandlers_35 rfl (lv_at hl.1 3 rfl) ?_
          obtain ⟨a907, j7, hf⟩ := ob hf
          obtain ⟨q7, e7, hf⟩ := ob hf
          refine zw_callV (rest := []) (n := 1) F (kX0_covers (r := q7.1) (h' := q7.2) l D base q5.1 l2 q5.2 e7) 0 rfl (by decide) j7 wd_449 wd_450 wd_451 wd_11 wd_452 (by decide +kernel) ⟨by decide, by decide⟩ hW hS rfl hl.1.1 (by decide) rfl ⟨(by decide), (by decide)⟩ dX7_comeToHandlers_36 (fun H locs hW hS => ?_)
          refine W.eq (g2 := F0 m 39 ls [.int q7.1]) rfl ?_
          refine lv_if_ne (tgt := 45) hx hb dX7_comeToHandlers_39 (by decide) (fun c8 => ?_) (fun c8 => ?_)
          · have hf := oiff c8 hf
            refine zw_aload_n hx hb dX7_comeToHandlers_45 rfl (lv_at hl.1 1 rfl) ?_
            obtain ⟨v9, e9, hf⟩ := ob hf
            refine zw_gR hx hb hts inX7 hown hW (ci := 7) rfl (by decide) 1 (by decide) (hts _ wd_90) e9 (fun _ _ => rfl) dX7_comeToHandlers_46 ?_
            refine zw_aload_n hx hb dX7_comeToHandlers_49 rfl (lv_at hl.1 4 rfl) ?_
            obtain ⟨v10, e10, hf⟩ := ob hf
            refine zw_gR hx hb hts inX1 hown hW (ci := 1) rfl (by decide) 3 (by decide) (hts _ wd_335) e10 (fun _ _ => rfl) dX7_comeToHandlers_50 ?_
            obtain ⟨a911, j11, hf⟩ := ob hf
            obtain ⟨h11, e11, hf⟩ := ob hf
            refine zw_callV (rest := []) (n := 1) F (kX4_copy l D base N v9 v10 q7.2 e11) 4 rfl (by decide) j11 wd_407 wd_408 wd_409 wd_4 wd_410 (by decide +kernel) ⟨by decide, by decide⟩ hW hS rfl hl.1.1 (by decide) rfl ⟨(by decide), (by decide)⟩ dX7_comeToHandlers_53 (fun H locs hW hS => ?_)
            refine W.eq (g2 := F0 m 56 ls []) rfl ?_
            refine zw_aload_n hx hb dX7_comeToHandlers_56 rfl (lv_at hl.1 1 rfl) ?_
            obtain ⟨v12, e12, hf⟩ := ob hf
            refine zw_gR hx hb hts inX7 hown hW (ci := 7) rfl (by decide) 1 (by decide) (hts _ wd_90) e12 (fun _ _ => rfl) dX7_comeToHandlers_57 ?_
            refine lv_iconst (v := 0) hx hb dX7_comeToHandlers_60 (by decide) ?_
            obtain ⟨h13, e13, hf⟩ := ob hf
            refine zw_pI hx hb hts inX4 tyX4 tyX4_ok nmX4 hown hW hS (ci := 4) rfl (by decide) 3 (by decide) (hts _ wd_60) (Or.inl rfl) (fun _ _ => rfl) rfl rfl e13 dX7_comeToHandlers_61 (fun H locs hW hS => ?_)
            refine zw_aload_n hx hb dX7_comeToHandlers_64 rfl (lv_at hl.1 1 rfl) ?_
            obtain ⟨v14, e14, hf⟩ := ob hf
            refine zw_gR hx hb hts inX7 hown hW (ci := 7) rfl (by decide) 1 (by decide) (hts _ wd_90) e14 (fun _ _ => rfl) dX7_comeToHandlers_65 ?_
            refine lv_iconst (v := 1) hx hb dX7_comeToHandlers_68 (by decide) ?_
            refine zw_aload hx hb dX7_comeToHandlers_69 (lv_at hl.1 0 rfl) ?_
            obtain ⟨v15, e15, hf⟩ := ob hf
            refine zw_gI hx hb hts inX0 hown hW (ci := 0) rfl (by decide) 2 (by decide) (hts _ wd_370) e15 (fun _ _ => rfl) dX7_comeToHandlers_71 ?_
            refine lv_iadd hx hb dX7_comeToHandlers_74 ?_
            obtain ⟨a916, j16, hf⟩ := ob hf
            obtain ⟨q16, e16, hf⟩ := ob hf
            refine zw_callV (rest := []) (n := 1) F (kX4_put (r := q16.1) (h' := q16.2) l D base v14 (1 + v15) h13 e16) 4 rfl (by decide) j16 wd_453 wd_454 wd_455 wd_4 wd_456 (by decide +kernel) ⟨by decide, by decide⟩ hW hS rfl hl.1.1 (by decide) rfl ⟨(by decide), (by decide)⟩ dX7_comeToHandlers_75 (fun H locs hW hS => ?_)
            refine W.eq (g2 := F0 m 78 ls [.int q16.1]) rfl ?_
            refine lv_if_eq (tgt := 95) hx hb dX7_comeToHandlers_78 (by decide) (fun c17 => ?_) (fun c17 => ?_)
            · have hf := oift c17 hf
              refine zw_aload_n hx hb dX7_comeToHandlers_95 rfl (lv_at hl.1 1 rfl) ?_
              refine lv_iload_n hx hb dX7_comeToHandlers_96 rfl (lv_at hl.1 3 rfl) ?_
              obtain ⟨h18, e18, hf⟩ := ob hf
              refine zw_pI hx hb hts inX7 tyX7 tyX7_ok nmX7 hown hW hS (ci := 7) rfl (by decide) 4 (by decide) (hts _ wd_93) (Or.inl rfl) (fun _ _ => rfl) rfl rfl e18 dX7_comeToHandlers_97 (fun H locs hW hS => ?_)
              exact kX7_comeToHandlers_b100 N (fX7_comeToHandlers_b3 N n) (fun l0 l1 l2 l3 l4 h hf H locs ls hl hW hS => ih l0 l1 l2 l3 l4 h hf H locs ls hl hW hS) F l0 l1 l2 l3 l4 h18 hf H locs ls (z_sub hl [1, 2, 3, 4, 5] rfl) hW hS
            · have hf := oiff c17 hf
              refine zw_aload_n hx hb dX7_comeToHandlers_81 rfl (lv_at hl.1 1 rfl) ?_
              refine zw_aload_n hx hb dX7_comeToHandlers_82 rfl (lv_at hl.1 2 rfl) ?_
              refine lv_iload_n hx hb dX7_comeToHandlers_83 rfl (lv_at hl.1 3 rfl) ?_
              refine zw_aload hx hb dX7_comeToHandlers_84 (lv_at hl.1 0 rfl) ?_
              obtain ⟨v19, e19, hf⟩ := ob hf
              refine zw_gI hx hb hts inX0 hown hW (ci := 0) rfl (by decide) 3 (by decide) (hts _ wd_372) e19 (fun _ _ => rfl) dX7_comeToHandlers_86 ?_
              obtain ⟨a920, j20, hf⟩ := ob hf
              obtain ⟨h20, e20, hf⟩ := ob hf
              refine zw_callV (rest := []) (n := 3) F (kX7_come l D base N l0 l1 l2 v19 q16.2 e20) 7 rfl (by decide) j20 wd_403 wd_405 ws_2 wd_3 wd_406 (by decide +kernel) ⟨by decide, by decide⟩ hW hS rfl hl.1.1 (by decide) rfl ⟨(by decide), (by decide)⟩ dX7_comeToHandlers_89 (fun H locs hW hS => ?_)
              refine W.eq (g2 := F0 m 92 ls []) rfl ?_
              refine lv_goto (tgt := 100) hx hb dX7_comeToHandlers_92 (by decide) ?_
              exact kX7_comeToHandlers_b100 N (fX7_comeToHandlers_b3 N n) (fun l0 l1 l2 l3 l4 h hf H locs ls hl hW hS => ih l0 l1 l2 l3 l4 h hf H locs ls hl hW hS) F l0 l1 l2 l3 l4 h20 hf H locs ls (z_sub hl [1, 2, 3, 4, 5] rfl) hW hS
          · have hf := oift c8 hf
            refine lv_goto (tgt := 100) hx hb dX7_comeToHandlers_42 (by decide) ?_
            exact kX7_comeToHandlers_b100 N (fX7_comeToHandlers_b3 N n) (fun l0 l1 l2 l3 l4 h hf H locs ls hl hW hS => ih l0 l1 l2 l3 l4 h hf H locs ls hl hW hS) F l0 l1 l2 l3 l4 q7.2 hf H locs ls (z_sub hl [1, 2, 3, 4, 5] rfl) hW hS
set_option maxRecDepth 100000 in
set_option maxHeartbeats 4000000 in
theorem kX7_comeToHandlers_w (N : Nat) (F : zF p s m args meth c cX7_comeToHandlers 6 RX7 none) {h' : zH} (a0 : Option Nat) (a1 : Option Nat) (a2 : Int32) (a3 : Option Nat) (h : zH) (hf : fX7_comeToHandlers N a0 a1 a2 a3 h = some h') (H : Heap) (locs : List Loc) (ls : Array Slot) (hl : zhas ls 6 [(0, va_rf a0), (1, va_rf a1), (2, .int a2), (3, va_rf a3)]) (hW : z_W D base s h H) (hS : va_S (zA base) s.heap H locs) : W p l e rmX7_comeToHandlers s m args below meth c H locs 0 0 (MQ below (zQ D base none h') args s rmX7_comeToHandlers.cells rmX7_comeToHandlers.slots (zA base)) (F0 m 0 ls []) := by
  obtain ⟨hx, hb, hml, hown, hts, hret, hlk, hZ⟩ := id F
  unfold fX7_comeToHandlers at hf
  refine lv_iconst (v := 0) hx hb dX7_comeToHandlers_0 (by decide) ?_
  refine zl_istore (lv' := [(4, .int 0), (0, va_rf a0), (1, va_rf a1), (2, .int a2), (3, va_rf a3)]) hx hb dX7_comeToHandlers_1 hl (by decide) rfl (fun ls hl => ?_)
  exact kX7_comeToHandlers_b3 N F N a0 a1 a2 a3 0 h hf H locs ls (z_sub hl [1, 2, 3, 4, 0] rfl) hW hS
set_option maxRecDepth 100000 in
set_option maxHeartbeats 4000000 in
theorem kX7_comeToHandlers (l : Launch) (D : va_G) (base : Nat) (N : Nat) (a0 : Option Nat) (a1 : Option Nat) (a2 : Int32) (a3 : Option Nat) (h : zH) {h' : zH} (hf : fX7_comeToHandlers N a0 a1 a2 a3 h = some h') : zMet l D base yX7_comeToHandlers cX7_comeToHandlers 6 none rmX7_comeToHandlers h [va_rf a0, va_rf a1, .int a2, va_rf a3] none h' :=
  zMet.of (by decide +kernel) (fun v hv => by simp only [List.mem_cons, List.not_mem_nil, or_false] at hv; rcases hv with rfl | rfl | rfl | rfl <;> first | rfl | exact va_rf_cat _) (Nat.le_of_ble_eq_true rfl) (fun p e s m args below meth c ls F hi hl hW hS => kX7_comeToHandlers_w N F a0 a1 a2 a3 h hf s.heap [] ls hl hW hS)
end
