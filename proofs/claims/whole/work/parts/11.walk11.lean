section
variable {p : Program} {l : Launch} {e : Env} {s : State} {m : MethodId} {args : Array Value} {below : List Frame} {meth : Method} {c : Code} {D : va_G} {base : Nat}
set_option maxRecDepth 100000 in
set_option maxHeartbeats 4000000 in
theorem kX9_rows_b200 (N : Nat) {r : Int32} {h' : zH} (F : zF p s m args meth c cX9_rows 6 RX9 (some .boolean)) (s0 : Int32) (s1 : Option Nat) (h : zH) (hf : fX9_rows_b200 N s0 s1 h = some (r, h')) (H : Heap) (locs : List Loc) (ls : Array Slot) (hl : zhas ls 6 []) (hW : z_W D base s h H) (hS : va_S (zA base) s.heap H locs) : W p l e rmX9_rows s m args below meth c H locs 0 0 (MQ below (zQ D base (some (.int r)) h') args s rmX9_rows.cells rmX9_rows.slots (zA base)) (F0 m 200 ls [.int s0, va_rf s1]) := by
  obtain ⟨hx, hb, hml, hown, hts, hret, hlk, hZ⟩ := id F
  unfold fX9_rows_b200 at hf
  obtain ⟨a901, j1, hf⟩ := ob hf
  obtain ⟨q1, e1, hf⟩ := ob hf
  refine zw_callV (rest := []) (n := 1) F (kX9_push (r := q1.1) (h' := q1.2) l D base s1 s0 h e1) 9 rfl (by decide) j1 wd_765 wd_767 ws_34 wd_6 wd_768 (by decide +kernel) ⟨by decide, by decide⟩ hW hS rfl hl.1.1 (by decide) rfl ⟨(by decide), (by decide)⟩ dX9_rows_200 (fun H locs hW hS => ?_)
  refine W.eq (g2 := F0 m 203 ls [.int q1.1]) rfl ?_
  refine lv_if_eq (tgt := 210) hx hb dX9_rows_203 (by decide) (fun c2 => ?_) (fun c2 => ?_)
  · have hf := oift c2 hf
    refine lv_iconst (v := 0) hx hb dX9_rows_210 (by decide) ?_
    obtain ⟨rfl, rfl⟩ := oret hf
    exact zw_zreturn F (by decide) hW hS dX9_rows_211
  · have hf := oiff c2 hf
    refine lv_iconst (v := 1) hx hb dX9_rows_206 (by decide) ?_
    refine lv_goto (tgt := 211) hx hb dX9_rows_207 (by decide) ?_
    obtain ⟨rfl, rfl⟩ := oret hf
    exact zw_zreturn F (by decide) hW hS dX9_rows_211
set_option maxRecDepth 100000 in
set_option maxHeartbeats 4000000 in
theorem kX9_rows_b165 (N : Nat) {r : Int32} {h' : zH} (F : zF p s m args meth c cX9_rows 6 RX9 (some .boolean)) (l0 : Option Nat) (l1 : Int32) (l4 : Int32) (s0 : Int32) (h : zH) (hf : fX9_rows_b165 N l0 l1 l4 s0 h = some (r, h')) (H : Heap) (locs : List Loc) (ls : Array Slot) (hl : zhas ls 6 [(0, va_rf l0), (1, .int l1), (4, .int l4)]) (hW : z_W D base s h H) (hS : va_S (zA base) s.heap H locs) : W p l e rmX9_rows s m args below meth c H locs 0 0 (MQ below (zQ D base (some (.int r)) h') args s rmX9_rows.cells rmX9_rows.slots (zA base)) (F0 m 165 ls [.int s0]) := by
  obtain ⟨hx, hb, hml, hown, hts, hret, hlk, hZ⟩ := id F
  unfold fX9_rows_b165 at hf
  refine zl_istore (lv' := [(5, .int s0), (0, va_rf l0), (1, .int l1), (4, .int l4)]) hx hb dX9_rows_165 hl (by decide) rfl (fun ls hl => ?_)
  refine lv_iload hx hb dX9_rows_167 (lv_at hl.1 0 rfl) ?_
  refine lv_if_eq (tgt := 210) hx hb dX9_rows_169 (by decide) (fun c1 => ?_) (fun c1 => ?_)
  · have hf := oift c1 hf
    refine lv_iconst (v := 0) hx hb dX9_rows_210 (by decide) ?_
    obtain ⟨rfl, rfl⟩ := oret hf
    exact zw_zreturn F (by decide) hW hS dX9_rows_211
  · have hf := oiff c1 hf
    refine zw_aload_n hx hb dX9_rows_172 rfl (lv_at hl.1 1 rfl) ?_
    refine lv_iload_n hx hb dX9_rows_173 rfl (lv_at hl.1 2 rfl) ?_
    refine lv_bipush (v := 32) hx hb dX9_rows_174 (by decide) ?_
    refine lv_icmp_ne (tgt := 183) hx hb dX9_rows_176 (by decide) (fun c2 => ?_) (fun c2 => ?_)
    · have hf := oiff c2 hf
      refine lv_iload hx hb dX9_rows_183 (lv_at hl.1 3 rfl) ?_
      refine lv_bipush (v := 97) hx hb dX9_rows_185 (by decide) ?_
      refine lv_icmp_ne (tgt := 195) hx hb dX9_rows_187 (by decide) (fun c3 => ?_) (fun c3 => ?_)
      · have hf := oiff c3 hf
        refine lv_iload hx hb dX9_rows_195 (lv_at hl.1 3 rfl) ?_
        refine lv_bipush (v := 64) hx hb dX9_rows_197 (by decide) ?_
        refine lv_isub hx hb dX9_rows_199 ?_
        exact kX9_rows_b200 N F (l4 - 64) l0 h hf H locs ls (z_sub hl [] rfl) hW hS
      · have hf := oift c3 hf
        refine lv_bipush (v := 97) hx hb dX9_rows_190 (by decide) ?_
        refine lv_goto (tgt := 200) hx hb dX9_rows_192 (by decide) ?_
        exact kX9_rows_b200 N F 97 l0 h hf H locs ls (z_sub hl [] rfl) hW hS
    · have hf := oift c2 hf
      refine lv_iconst (v := 0) hx hb dX9_rows_179 (by decide) ?_
      refine lv_goto (tgt := 200) hx hb dX9_rows_180 (by decide) ?_
      exact kX9_rows_b200 N F 0 l0 h hf H locs ls (z_sub hl [] rfl) hW hS
set_option maxRecDepth 100000 in
set_option maxHeartbeats 4000000 in
theorem kX9_rows_b160 (N : Nat) {r : Int32} {h' : zH} (F : zF p s m args meth c cX9_rows 6 RX9 (some .boolean)) (l0 : Option Nat) (l1 : Int32) (l4 : Int32) (h : zH) (hf : fX9_rows_b160 N l0 l1 l4 h = some (r, h')) (H : Heap) (locs : List Loc) (ls : Array Slot) (hl : zhas ls 6 [(0, va_rf l0), (1, .int l1), (4, .int l4)]) (hW : z_W D base s h H) (hS : va_S (zA base) s.heap H locs) : W p l e rmX9_rows s m args below meth c H locs 0 0 (MQ below (zQ D base (some (.int r)) h') args s rmX9_rows.cells rmX9_rows.slots (zA base)) (F0 m 160 ls []) := by
  obtain ⟨hx, hb, hml, hown, hts, hret, hlk, hZ⟩ := id F
  unfold fX9_rows_b160 at hf
  refine lv_iconst (v := 1) hx hb dX9_rows_160 (by decide) ?_
  refine lv_goto (tgt := 165) hx hb dX9_rows_161 (by decide) ?_
  exact kX9_rows_b165 N F l0 l1 l4 1 h hf H locs ls (z_sub hl [0, 1, 2] rfl) hW hS
set_option maxRecDepth 100000 in
set_option maxHeartbeats 4000000 in
theorem kX9_rows_b143 (N : Nat) {r : Int32} {h' : zH} (F : zF p s m args meth c cX9_rows 6 RX9 (some .boolean)) (l0 : Option Nat) (l1 : Int32) (s0 : Int32) (h : zH) (hf : fX9_rows_b143 N l0 l1 s0 h = some (r, h')) (H : Heap) (locs : List Loc) (ls : Array Slot) (hl : zhas ls 6 [(0, va_rf l0), (1, .int l1)]) (hW : z_W D base s h H) (hS : va_S (zA base) s.heap H locs) : W p l e rmX9_rows s m args below meth c H locs 0 0 (MQ below (zQ D base (some (.int r)) h') args s rmX9_rows.cells rmX9_rows.slots (zA base)) (F0 m 143 ls [.int s0]) := by
  obtain ⟨hx, hb, hml, hown, hts, hret, hlk, hZ⟩ := id F
  unfold fX9_rows_b143 at hf
  refine zl_istore (lv' := [(4, .int s0), (0, va_rf l0), (1, .int l1)]) hx hb dX9_rows_143 hl (by decide) rfl (fun ls hl => ?_)
  refine lv_iload hx hb dX9_rows_145 (lv_at hl.1 0 rfl) ?_
  refine lv_bipush (v := 97) hx hb dX9_rows_147 (by decide) ?_
  refine lv_icmp_eq (tgt := 160) hx hb dX9_rows_149 (by decide) (fun c1 => ?_) (fun c1 => ?_)
  · have hf := oift c1 hf
    exact kX9_rows_b160 N F l0 l1 s0 h hf H locs ls (z_sub hl [1, 2, 0] rfl) hW hS
  · have hf := oiff c1 hf
    refine lv_iload hx hb dX9_rows_152 (lv_at hl.1 0 rfl) ?_
    obtain ⟨q2, e2, hf⟩ := ob hf
    refine zw_callS (rest := []) (n := 1) F (kX9_isRow (r := q2.1) (h' := q2.2) l D base s0 h e2) wd_809 wd_810 wd_6 wd_811 (by decide +kernel) ⟨by decide, by decide⟩ hW hS rfl hl.1.1 (by decide) rfl ⟨(by decide), (by decide)⟩ dX9_rows_154 (fun H locs hW hS => ?_)
    refine W.eq (g2 := F0 m 157 ls [.int q2.1]) rfl ?_
    refine lv_if_eq (tgt := 164) hx hb dX9_rows_157 (by decide) (fun c3 => ?_) (fun c3 => ?_)
    · have hf := oift c3 hf
      refine lv_iconst (v := 0) hx hb dX9_rows_164 (by decide) ?_
      exact kX9_rows_b165 N F l0 l1 s0 0 q2.2 hf H locs ls (z_sub hl [1, 2, 0] rfl) hW hS
    · have hf := oiff c3 hf
      exact kX9_rows_b160 N F l0 l1 s0 q2.2 hf H locs ls (z_sub hl [1, 2, 0] rfl) hW hS
set_option maxRecDepth 100000 in
set_option maxHeartbeats 4000000 in
theorem kX9_rows_b130 (N : Nat) {r : Int32} {h' : zH} (F : zF p s m args meth c cX9_rows 6 RX9 (some .boolean)) (l0 : Option Nat) (l1 : Int32) (s0 : Int32) (h : zH) (hf : fX9_rows_b130 N l0 l1 s0 h = some (r, h')) (H : Heap) (locs : List Loc) (ls : Array Slot) (hl : zhas ls 6 [(0, va_rf l0), (1, .int l1)]) (hW : z_W D base s h H) (hS : va_S (zA base) s.heap H locs) : W p l e rmX9_rows s m args below meth c H locs 0 0 (MQ below (zQ D base (some (.int r)) h') args s rmX9_rows.cells rmX9_rows.slots (zA base)) (F0 m 130 ls [.int s0]) := by
  obtain ⟨hx, hb, hml, hown, hts, hret, hlk, hZ⟩ := id F
  unfold fX9_rows_b130 at hf
  refine zl_istore_n (lv' := [(3, .int s0), (0, va_rf l0), (1, .int l1)]) hx hb dX9_rows_130 rfl hl (by decide) rfl (fun ls hl => ?_)
  refine lv_iload_n hx hb dX9_rows_131 rfl (lv_at hl.1 0 rfl) ?_
  refine lv_if_eq (tgt := 142) hx hb dX9_rows_132 (by decide) (fun c1 => ?_) (fun c1 => ?_)
  · have hf := oift c1 hf
    refine lv_iconst (v := (-1)) hx hb dX9_rows_142 (by decide) ?_
    exact kX9_rows_b143 N F l0 l1 (-1) h hf H locs ls (z_sub hl [1, 2] rfl) hW hS
  · have hf := oiff c1 hf
    refine zw_aload_n hx hb dX9_rows_135 rfl (lv_at hl.1 1 rfl) ?_
    obtain ⟨a902, j2, hf⟩ := ob hf
    obtain ⟨q2, e2, hf⟩ := ob hf
    refine zw_callV (rest := []) (n := 0) F (kX9_pop (r := q2.1) (h' := q2.2) l D base l0 h e2) 9 rfl (by decide) j2 wd_777 wd_779 ws_37 wd_6 wd_780 (by decide +kernel) ⟨by decide, by decide⟩ hW hS rfl hl.1.1 (by decide) rfl ⟨(by decide), (by decide)⟩ dX9_rows_136 (fun H locs hW hS => ?_)
    refine W.eq (g2 := F0 m 139 ls [.int q2.1]) rfl ?_
    refine lv_goto (tgt := 143) hx hb dX9_rows_139 (by decide) ?_
    exact kX9_rows_b143 N F l0 l1 q2.1 q2.2 hf H locs ls (z_sub hl [1, 2] rfl) hW hS
set_option maxRecDepth 100000 in
set_option maxHeartbeats 4000000 in
theorem kX9_rows_b125 (N : Nat) {r : Int32} {h' : zH} (F : zF p s m args meth c cX9_rows 6 RX9 (some .boolean)) (l0 : Option Nat) (l1 : Int32) (h : zH) (hf : fX9_rows_b125 N l0 l1 h = some (r, h')) (H : Heap) (locs : List Loc) (ls : Array Slot) (hl : zhas ls 6 [(0, va_rf l0), (1, .int l1)]) (hW : z_W D base s h H) (hS : va_S (zA base) s.heap H locs) : W p l e rmX9_rows s m args below meth c H locs 0 0 (MQ below (zQ D base (some (.int r)) h') args s rmX9_rows.cells rmX9_rows.slots (zA base)) (F0 m 125 ls []) := by
  obtain ⟨hx, hb, hml, hown, hts, hret, hlk, hZ⟩ := id F
  unfold fX9_rows_b125 at hf
  refine lv_iconst (v := 1) hx hb dX9_rows_125 (by decide) ?_
  refine lv_goto (tgt := 130) hx hb dX9_rows_126 (by decide) ?_
  exact kX9_rows_b130 N F l0 l1 1 h hf H locs ls (z_sub hl [0, 1] rfl) hW hS
set_option maxRecDepth 100000 in
set_option maxHeartbeats 4000000 in
theorem kX9_rows_b105 (N : Nat) {r : Int32} {h' : zH} (F : zF p s m args meth c cX9_rows 6 RX9 (some .boolean))  (h : zH) (hf : fX9_rows_b105 N  h = some (r, h')) (H : Heap) (locs : List Loc) (ls : Array Slot) (hl : zhas ls 6 []) (hW : z_W D base s h H) (hS : va_S (zA base) s.heap H locs) : W p l e rmX9_rows s m args below meth c H locs 0 0 (MQ below (zQ D base (some (.int r)) h') args s rmX9_rows.cells rmX9_rows.slots (zA base)) (F0 m 105 ls []) := by
  obtain ⟨hx, hb, hml, hown, hts, hret, hlk, hZ⟩ := id F
  unfold fX9_rows_b105 at hf
  refine lv_iconst (v := 1) hx hb dX9_rows_105 (by decide) ?_
  refine lv_goto (tgt := 110) hx hb dX9_rows_106 (by decide) ?_
  obtain ⟨rfl, rfl⟩ := oret hf
  exact zw_zreturn F (by decide) hW hS dX9_rows_110
set_option maxRecDepth 100000 in
set_option maxHeartbeats 4000000 in
theorem kX9_rows_b75 (N : Nat) {r : Int32} {h' : zH} (F : zF p s m args meth c cX9_rows 6 RX9 (some .boolean)) (l0 : Option Nat) (l3 : Int32) (s0 : Int32) (h : zH) (hf : fX9_rows_b75 N l0 l3 s0 h = some (r, h')) (H : Heap) (locs : List Loc) (ls : Array Slot) (hl : zhas ls 6 [(0, va_rf l0), (3, .int l3)]) (hW : z_W D base s h H) (hS : va_S (zA base) s.heap H locs) : W p l e rmX9_rows s m args below meth c H locs 0 0 (MQ below (zQ D base (some (.int r)) h') args s rmX9_rows.cells rmX9_rows.slots (zA base)) (F0 m 75 ls [.int s0]) := by
  obtain ⟨hx, hb, hml, hown, hts, hret, hlk, hZ⟩ := id F
  unfold fX9_rows_b75 at hf
  refine zl_istore (lv' := [(5, .int s0), (0, va_rf l0), (3, .int l3)]) hx hb dX9_rows_75 hl (by decide) rfl (fun ls hl => ?_)
  refine lv_iload hx hb dX9_rows_77 (lv_at hl.1 0 rfl) ?_
  refine lv_bipush (v := 97) hx hb dX9_rows_79 (by decide) ?_
  refine lv_icmp_eq (tgt := 105) hx hb dX9_rows_81 (by decide) (fun c1 => ?_) (fun c1 => ?_)
  · have hf := oift c1 hf
    exact kX9_rows_b105 N F h hf H locs ls (z_sub hl [] rfl) hW hS
  · have hf := oiff c1 hf
    refine lv_iload hx hb dX9_rows_84 (lv_at hl.1 0 rfl) ?_
    obtain ⟨q2, e2, hf⟩ := ob hf
    refine zw_callS (rest := []) (n := 1) F (kX9_isRow (r := q2.1) (h' := q2.2) l D base s0 h e2) wd_809 wd_810 wd_6 wd_811 (by decide +kernel) ⟨by decide, by decide⟩ hW hS rfl hl.1.1 (by decide) rfl ⟨(by decide), (by decide)⟩ dX9_rows_86 (fun H locs hW hS => ?_)
    refine W.eq (g2 := F0 m 89 ls [.int q2.1]) rfl ?_
    refine lv_if_eq (tgt := 109) hx hb dX9_rows_89 (by decide) (fun c3 => ?_) (fun c3 => ?_)
    · have hf := oift c3 hf
      refine lv_iconst (v := 0) hx hb dX9_rows_109 (by decide) ?_
      obtain ⟨rfl, rfl⟩ := oret hf
      exact zw_zreturn F (by decide) hW hS dX9_rows_110
    · have hf := oiff c3 hf
      refine zw_aload_n hx hb dX9_rows_92 rfl (lv_at hl.1 1 rfl) ?_
      refine lv_iload_n hx hb dX9_rows_93 rfl (lv_at hl.1 2 rfl) ?_
      refine lv_iload hx hb dX9_rows_94 (lv_at hl.1 0 rfl) ?_
      refine lv_bipush (v := 64) hx hb dX9_rows_96 (by decide) ?_
      refine lv_isub hx hb dX9_rows_98 ?_
      obtain ⟨a904, j4, hf⟩ := ob hf
      obtain ⟨q4, e4, hf⟩ := ob hf
      refine zw_callV (rest := []) (n := 2) F (kX9_goes (r := q4.1) (h' := q4.2) l D base N l0 l3 (s0 - 64) q2.2 e4) 9 rfl (by decide) j4 wd_793 wd_795 ws_41 wd_6 wd_796 (by decide +kernel) ⟨by decide, by decide⟩ hW hS rfl hl.1.1 (by decide) rfl ⟨(by decide), (by decide)⟩ dX9_rows_99 (fun H locs hW hS => ?_)
      refine W.eq (g2 := F0 m 102 ls [.int q4.1]) rfl ?_
      refine lv_if_eq (tgt := 109) hx hb dX9_rows_102 (by decide) (fun c5 => ?_) (fun c5 => ?_)
      · have hf := oift c5 hf
        refine lv_iconst (v := 0) hx hb dX9_rows_109 (by decide) ?_
        obtain ⟨rfl, rfl⟩ := oret hf
        exact zw_zreturn F (by decide) hW hS dX9_rows_110
      · have hf := oiff c5 hf
        exact kX9_rows_b105 N F q4.2 hf H locs ls (z_sub hl [] rfl) hW hS
set_option maxRecDepth 100000 in
set_option maxHeartbeats 4000000 in
theorem kX9_rows_b60 (N : Nat) {r : Int32} {h' : zH} (F : zF p s m args meth c cX9_rows 6 RX9 (some .boolean)) (l0 : Option Nat) (l3 : Int32) (s0 : Int32) (h : zH) (hf : fX9_rows_b60 N l0 l3 s0 h = some (r, h')) (H : Heap) (locs : List Loc) (ls : Array Slot) (hl : zhas ls 6 [(0, va_rf l0), (3, .int l3)]) (hW : z_W D base s h H) (hS : va_S (zA base) s.heap H locs) : W p l e rmX9_rows s m args below meth c H locs 0 0 (MQ below (zQ D base (some (.int r)) h') args s rmX9_rows.cells rmX9_rows.slots (zA base)) (F0 m 60 ls [.int s0]) := by
  obtain ⟨hx, hb, hml, hown, hts, hret, hlk, hZ⟩ := id F
  unfold fX9_rows_b60 at hf
  refine zl_istore (lv' := [(4, .int s0), (0, va_rf l0), (3, .int l3)]) hx hb dX9_rows_60 hl (by decide) rfl (fun ls hl => ?_)
  refine lv_iload hx hb dX9_rows_62 (lv_at hl.1 0 rfl) ?_
  refine lv_if_eq (tgt := 74) hx hb dX9_rows_64 (by decide) (fun c1 => ?_) (fun c1 => ?_)
  · have hf := oift c1 hf
    refine lv_iconst (v := (-1)) hx hb dX9_rows_74 (by decide) ?_
    exact kX9_rows_b75 N F l0 l3 (-1) h hf H locs ls (z_sub hl [1, 2] rfl) hW hS
  · have hf := oiff c1 hf
    refine zw_aload_n hx hb dX9_rows_67 rfl (lv_at hl.1 1 rfl) ?_
    obtain ⟨a902, j2, hf⟩ := ob hf
    obtain ⟨q2, e2, hf⟩ := ob hf
    refine zw_callV (rest := []) (n := 0) F (kX9_pop (r := q2.1) (h' := q2.2) l D base l0 h e2) 9 rfl (by decide) j2 wd_777 wd_779 ws_37 wd_6 wd_780 (by decide +kernel) ⟨by decide, by decide⟩ hW hS rfl hl.1.1 (by decide) rfl ⟨(by decide), (by decide)⟩ dX9_rows_68 (fun H locs hW hS => ?_)
    refine W.eq (g2 := F0 m 71 ls [.int q2.1]) rfl ?_
    refine lv_goto (tgt := 75) hx hb dX9_rows_71 (by decide) ?_
    exact kX9_rows_b75 N F l0 l3 q2.1 q2.2 hf H locs ls (z_sub hl [1, 2] rfl) hW hS
set_option maxRecDepth 100000 in
set_option maxHeartbeats 4000000 in
theorem kX9_rows_b59 (N : Nat) {r : Int32} {h' : zH} (F : zF p s m args meth c cX9_rows 6 RX9 (some .boolean)) (l0 : Option Nat) (l3 : Int32) (h : zH) (hf : fX9_rows_b59 N l0 l3 h = some (r, h')) (H : Heap) (locs : List Loc) (ls : Array Slot) (hl : zhas ls 6 [(0, va_rf l0), (3, .int l3)]) (hW : z_W D base s h H) (hS : va_S (zA base) s.heap H locs) : W p l e rmX9_rows s m args below meth c H locs 0 0 (MQ below (zQ D base (some (.int r)) h') args s rmX9_rows.cells rmX9_rows.slots (zA base)) (F0 m 59 ls []) := by
  obtain ⟨hx, hb, hml, hown, hts, hret, hlk, hZ⟩ := id F
  unfold fX9_rows_b59 at hf
  refine lv_iconst (v := 0) hx hb dX9_rows_59 (by decide) ?_
  exact kX9_rows_b60 N F l0 l3 0 h hf H locs ls (z_sub hl [0, 1] rfl) hW hS
set_option maxRecDepth 100000 in
set_option maxHeartbeats 4000000 in
theorem kX9_rows_w (N : Nat) (F : zF p s m args meth c cX9_rows 6 RX9 (some .boolean)) {r : Int32} {h' : zH} (a0 : Option Nat) (a1 : Int32) (a2 : Int32) (h : zH) (hf : fX9_rows N a0 a1 a2 h = some (r, h')) (H : Heap) (locs : List Loc) (ls : Array Slot) (hl : zhas ls 6 [(0, va_rf a0), (1, .int a1), (2, .int a2)]) (hW : z_W D base s h H) (hS : va_S (zA base) s.heap H locs) : W p l e rmX9_rows s m args below meth c H locs 0 0 (MQ below (zQ D base (some (.int r)) h') args s rmX9_rows.cells rmX9_rows.slots (zA base)) (F0 m 0 ls []) := by
  obtain ⟨hx, hb, hml, hown, hts, hret, hlk, hZ⟩ := id F
  unfold fX9_rows at hf
  refine lv_iload_n hx hb dX9_rows_0 rfl (lv_at hl.1 1 rfl) ?_
  refine lv_bipush (v := 31) hx hb dX9_rows_1 (by decide) ?_
  refine lv_icmp_ne (tgt := 31) hx hb dX9_rows_3 (by decide) (fun c1 => ?_) (fun c1 => ?_)
  · have hf := oiff c1 hf
    refine lv_iload_n hx hb dX9_rows_31 rfl (lv_at hl.1 1 rfl) ?_
    refine lv_bipush (v := 34) hx hb dX9_rows_32 (by decide) ?_
    refine lv_icmp_ne (tgt := 111) hx hb dX9_rows_34 (by decide) (fun c2 => ?_) (fun c2 => ?_)
    · have hf := oiff c2 hf
      refine lv_iload_n hx hb dX9_rows_111 rfl (lv_at hl.1 1 rfl) ?_
      refine lv_bipush (v := 32) hx hb dX9_rows_112 (by decide) ?_
      refine lv_icmp_eq (tgt := 125) hx hb dX9_rows_114 (by decide) (fun c3 => ?_) (fun c3 => ?_)
      · have hf := oift c3 hf
        exact kX9_rows_b125 N F a0 a1 h hf H locs ls (z_sub hl [0, 1] rfl) hW hS
      · have hf := oiff c3 hf
        refine zw_aload_n hx hb dX9_rows_117 rfl (lv_at hl.1 0 rfl) ?_
        refine lv_iconst (v := 1) hx hb dX9_rows_118 (by decide) ?_
        obtain ⟨a904, j4, hf⟩ := ob hf
        obtain ⟨q4, e4, hf⟩ := ob hf
        refine zw_callV (rest := []) (n := 1) F (kX9_ints (r := q4.1) (h' := q4.2) l D base N a0 1 h e4) 9 rfl (by decide) j4 wd_781 wd_783 ws_38 wd_6 wd_784 (by decide +kernel) ⟨by decide, by decide⟩ hW hS rfl hl.1.1 (by decide) rfl ⟨(by decide), (by decide)⟩ dX9_rows_119 (fun H locs hW hS => ?_)
        refine W.eq (g2 := F0 m 122 ls [.int q4.1]) rfl ?_
        refine lv_if_eq (tgt := 129) hx hb dX9_rows_122 (by decide) (fun c5 => ?_) (fun c5 => ?_)
        · have hf := oift c5 hf
          refine lv_iconst (v := 0) hx hb dX9_rows_129 (by decide) ?_
          exact kX9_rows_b130 N F a0 a1 0 q4.2 hf H locs ls (z_sub hl [0, 1] rfl) hW hS
        · have hf := oiff c5 hf
          exact kX9_rows_b125 N F a0 a1 q4.2 hf H locs ls (z_sub hl [0, 1] rfl) hW hS
    · have hf := oift c2 hf
      refine zw_aload_n hx hb dX9_rows_37 rfl (lv_at hl.1 0 rfl) ?_
      obtain ⟨a906, j6, hf⟩ := ob hf
      obtain ⟨q6, e6, hf⟩ := ob hf
      refine zw_callV (rest := []) (n := 0) F (kX9_pop (r := q6.1) (h' := q6.2) l D base a0 h e6) 9 rfl (by decide) j6 wd_777 wd_779 ws_37 wd_6 wd_780 (by decide +kernel) ⟨by decide, by decide⟩ hW hS rfl hl.1.1 (by decide) rfl ⟨(by decide), (by decide)⟩ dX9_rows_38 (fun H locs hW hS => ?_)
      refine W.eq (g2 := F0 m 41 ls [.int q6.1]) rfl ?_
      refine zl_istore_n (lv' := [(3, .int q6.1), (0, va_rf a0), (1, .int a1), (2, .int a2)]) hx hb dX9_rows_41 rfl hl (by decide) rfl (fun ls hl => ?_)
      refine lv_iload_n hx hb dX9_rows_42 rfl (lv_at hl.1 0 rfl) ?_
      refine lv_iconst (v := (-1)) hx hb dX9_rows_43 (by decide) ?_
      refine lv_icmp_eq (tgt := 59) hx hb dX9_rows_44 (by decide) (fun c7 => ?_) (fun c7 => ?_)
      · have hf := oift c7 hf
        exact kX9_rows_b59 N F a0 q6.1 q6.2 hf H locs ls (z_sub hl [1, 0] rfl) hW hS
      · have hf := oiff c7 hf
        refine zw_aload_n hx hb dX9_rows_47 rfl (lv_at hl.1 1 rfl) ?_
        refine lv_iconst (v := 1) hx hb dX9_rows_48 (by decide) ?_
        obtain ⟨a908, j8, hf⟩ := ob hf
        obtain ⟨q8, e8, hf⟩ := ob hf
        refine zw_callV (rest := []) (n := 1) F (kX9_ints (r := q8.1) (h' := q8.2) l D base N a0 1 q6.2 e8) 9 rfl (by decide) j8 wd_781 wd_783 ws_38 wd_6 wd_784 (by decide +kernel) ⟨by decide, by decide⟩ hW hS rfl hl.1.1 (by decide) rfl ⟨(by decide), (by decide)⟩ dX9_rows_49 (fun H locs hW hS => ?_)
        refine W.eq (g2 := F0 m 52 ls [.int q8.1]) rfl ?_
        refine lv_if_eq (tgt := 59) hx hb dX9_rows_52 (by decide) (fun c9 => ?_) (fun c9 => ?_)
        · have hf := oift c9 hf
          exact kX9_rows_b59 N F a0 q6.1 q8.2 hf H locs ls (z_sub hl [1, 0] rfl) hW hS
        · have hf := oiff c9 hf
          refine lv_iconst (v := 1) hx hb dX9_rows_55 (by decide) ?_
          refine lv_goto (tgt := 60) hx hb dX9_rows_56 (by decide) ?_
          exact kX9_rows_b60 N F a0 q6.1 1 q8.2 hf H locs ls (z_sub hl [1, 0] rfl) hW hS
  · have hf := oift c1 hf
    refine zw_aload_n hx hb dX9_rows_6 rfl (lv_at hl.1 0 rfl) ?_
    refine lv_iconst (v := 1) hx hb dX9_rows_7 (by decide) ?_
    obtain ⟨a910, j10, hf⟩ := ob hf
    obtain ⟨q10, e10, hf⟩ := ob hf
    refine zw_callV (rest := []) (n := 1) F (kX9_ints (r := q10.1) (h' := q10.2) l D base N a0 1 h e10) 9 rfl (by decide) j10 wd_781 wd_783 ws_38 wd_6 wd_784 (by decide +kernel) ⟨by decide, by decide⟩ hW hS rfl hl.1.1 (by decide) rfl ⟨(by decide), (by decide)⟩ dX9_rows_8 (fun H locs hW hS => ?_)
    refine W.eq (g2 := F0 m 11 ls [.int q10.1]) rfl ?_
    refine lv_if_eq (tgt := 29) hx hb dX9_rows_11 (by decide) (fun c11 => ?_) (fun c11 => ?_)
    · have hf := oift c11 hf
      refine lv_iconst (v := 0) hx hb dX9_rows_29 (by decide) ?_
      obtain ⟨rfl, rfl⟩ := oret hf
      exact zw_zreturn F (by decide) hW hS dX9_rows_30
    · have hf := oiff c11 hf
      refine zw_aload_n hx hb dX9_rows_14 rfl (lv_at hl.1 0 rfl) ?_
      refine lv_bipush (v := 64) hx hb dX9_rows_15 (by decide) ?_
      refine lv_iload_n hx hb dX9_rows_17 rfl (lv_at hl.1 2 rfl) ?_
      refine lv_iadd hx hb dX9_rows_18 ?_
      obtain ⟨a912, j12, hf⟩ := ob hf
      obtain ⟨q12, e12, hf⟩ := ob hf
      refine zw_callV (rest := []) (n := 1) F (kX9_push (r := q12.1) (h' := q12.2) l D base a0 (64 + a2) q10.2 e12) 9 rfl (by decide) j12 wd_765 wd_767 ws_34 wd_6 wd_768 (by decide +kernel) ⟨by decide, by decide⟩ hW hS rfl hl.1.1 (by decide) rfl ⟨(by decide), (by decide)⟩ dX9_rows_19 (fun H locs hW hS => ?_)
      refine W.eq (g2 := F0 m 22 ls [.int q12.1]) rfl ?_
      refine lv_if_eq (tgt := 29) hx hb dX9_rows_22 (by decide) (fun c13 => ?_) (fun c13 => ?_)
      · have hf := oift c13 hf
        refine lv_iconst (v := 0) hx hb dX9_rows_29 (by decide) ?_
        obtain ⟨rfl, rfl⟩ := oret hf
        exact zw_zreturn F (by decide) hW hS dX9_rows_30
      · have hf := oiff c13 hf
        refine lv_iconst (v := 1) hx hb dX9_rows_25 (by decide) ?_
        refine lv_goto (tgt := 30) hx hb dX9_rows_26 (by decide) ?_
        obtain ⟨rfl, rfl⟩ := oret hf
        exact zw_zreturn F (by decide) hW hS dX9_rows_30
set_option maxRecDepth 100000 in
set_option maxHeartbeats 4000000 in
theorem kX9_rows (l : Launch) (D : va_G) (base : Nat) (N : Nat) (a0 : Option Nat) (a1 : Int32) (a2 : Int32) (h : zH) {r : Int32} {h' : zH} (hf : fX9_rows N a0 a1 a2 h = some (r, h')) : zMet l D base yX9_rows cX9_rows 6 (some .boolean) rmX9_rows h [va_rf a0, .int a1, .int a2] (some (.int r)) h' :=
  zMet.of (by decide +kernel) (fun v hv => by simp only [List.mem_cons, List.not_mem_nil, or_false] at hv; rcases hv with rfl | rfl | rfl <;> first | rfl | exact va_rf_cat _) (Nat.le_of_ble_eq_true rfl) (fun p e s m args below meth c ls F hi hl hW hS => kX9_rows_w N F a0 a1 a2 h hf s.heap [] ls hl hW hS)
set_option maxRecDepth 100000 in
set_option maxHeartbeats 4000000 in
theorem kX9_places_b177 {r : Int32} {h' : zH} (F : zF p s m args meth c cX9_places 6 RX9 (some .boolean)) (l0 : Option Nat) (l4 : Int32) (s0 : Int32) (h : zH) (hf : fX9_places_b177 l0 l4 s0 h = some (r, h')) (H : Heap) (locs : List Loc) (ls : Array Slot) (hl : zhas ls 6 [(0, va_rf l0), (4, .int l4)]) (hW : z_W D base s h H) (hS : va_S (zA base) s.heap H locs) : W p l e rmX9_places s m args below meth c H locs 0 0 (MQ below (zQ D base (some (.int r)) h') args s rmX9_places.cells rmX9_places.slots (zA base)) (F0 m 177 ls [.int s0]) := by
  obtain ⟨hx, hb, hml, hown, hts, hret, hlk, hZ⟩ := id F
  unfold fX9_places_b177 at hf
  refine zl_istore (lv' := [(5, .int s0), (0, va_rf l0), (4, .int l4)]) hx hb dX9_places_177 hl (by decide) rfl (fun ls hl => ?_)
  refine lv_iload hx hb dX9_places_179 (lv_at hl.1 0 rfl) ?_
  refine lv_iconst (v := (-1)) hx hb dX9_places_181 (by decide) ?_
  refine lv_icmp_eq (tgt := 207) hx hb dX9_places_182 (by decide) (fun c1 => ?_) (fun c1 => ?_)
  · have hf := oift c1 hf
    refine lv_iconst (v := 0) hx hb dX9_places_207 (by decide) ?_
    obtain ⟨rfl, rfl⟩ := oret hf
    exact zw_zreturn F (by decide) hW hS dX9_places_208
  · have hf := oiff c1 hf
    refine zw_aload_n hx hb dX9_places_185 rfl (lv_at hl.1 1 rfl) ?_
    refine lv_iload hx hb dX9_places_186 (lv_at hl.1 2 rfl) ?_
    obtain ⟨a902, j2, hf⟩ := ob hf
    obtain ⟨q2, e2, hf⟩ := ob hf
    refine zw_callV (rest := []) (n := 1) F (kX9_push (r := q2.1) (h' := q2.2) l D base l0 l4 h e2) 9 rfl (by decide) j2 wd_765 wd_767 ws_34 wd_6 wd_768 (by decide +kernel) ⟨by decide, by decide⟩ hW hS rfl hl.1.1 (by decide) rfl ⟨(by decide), (by decide)⟩ dX9_places_188 (fun H locs hW hS => ?_)
    refine W.eq (g2 := F0 m 191 ls [.int q2.1]) rfl ?_
    refine lv_if_eq (tgt := 207) hx hb dX9_places_191 (by decide) (fun c3 => ?_) (fun c3 => ?_)
    · have hf := oift c3 hf
      refine lv_iconst (v := 0) hx hb dX9_places_207 (by decide) ?_
      obtain ⟨rfl, rfl⟩ := oret hf
      exact zw_zreturn F (by decide) hW hS dX9_places_208
    · have hf := oiff c3 hf
      refine zw_aload_n hx hb dX9_places_194 rfl (lv_at hl.1 1 rfl) ?_
      refine lv_iload hx hb dX9_places_195 (lv_at hl.1 0 rfl) ?_
      obtain ⟨a904, j4, hf⟩ := ob hf
      obtain ⟨q4, e4, hf⟩ := ob hf
      refine zw_callV (rest := []) (n := 1) F (kX9_push (r := q4.1) (h' := q4.2) l D base l0 s0 q2.2 e4) 9 rfl (by decide) j4 wd_765 wd_767 ws_34 wd_6 wd_768 (by decide +kernel) ⟨by decide, by decide⟩ hW hS rfl hl.1.1 (by decide) rfl ⟨(by decide), (by decide)⟩ dX9_places_197 (fun H locs hW hS => ?_)
      refine W.eq (g2 := F0 m 200 ls [.int q4.1]) rfl ?_
      refine lv_if_eq (tgt := 207) hx hb dX9_places_200 (by decide) (fun c5 => ?_) (fun c5 => ?_)
      · have hf := oift c5 hf
        refine lv_iconst (v := 0) hx hb dX9_places_207 (by decide) ?_
        obtain ⟨rfl, rfl⟩ := oret hf
        exact zw_zreturn F (by decide) hW hS dX9_places_208
      · have hf := oiff c5 hf
        refine lv_iconst (v := 1) hx hb dX9_places_203 (by decide) ?_
        refine lv_goto (tgt := 208) hx hb dX9_places_204 (by decide) ?_
        obtain ⟨rfl, rfl⟩ := oret hf
        exact zw_zreturn F (by decide) hW hS dX9_places_208
set_option maxRecDepth 100000 in
set_option maxHeartbeats 4000000 in
theorem kX9_places_b94 {r : Int32} {h' : zH} (F : zF p s m args meth c cX9_places 6 RX9 (some .boolean)) (l4 : Int32) (s0 : Int32) (s1 : Int32) (s2 : Option Nat) (h : zH) (hf : fX9_places_b94 l4 s0 s1 s2 h = some (r, h')) (H : Heap) (locs : List Loc) (ls : Array Slot) (hl : zhas ls 6 [(4, .int l4)]) (hW : z_W D base s h H) (hS : va_S (zA base) s.heap H locs) : W p l e rmX9_places s m args below meth c H locs 0 0 (MQ below (zQ D base (some (.int r)) h') args s rmX9_places.cells rmX9_places.slots (zA base)) (F0 m 94 ls [.int s0, .int s1, va_rf s2]) := by
  obtain ⟨hx, hb, hml, hown, hts, hret, hlk, hZ⟩ := id F
  unfold fX9_places_b94 at hf
  obtain ⟨h1, e1, hf⟩ := ob hf
  refine zw_sI hx hb hW hS e1 dX9_places_94 (fun H locs hW hS => ?_)
  refine lv_iload hx hb dX9_places_95 (lv_at hl.1 0 rfl) ?_
  refine lv_iconst (v := (-1)) hx hb dX9_places_97 (by decide) ?_
  refine lv_icmp_eq (tgt := 105) hx hb dX9_places_98 (by decide) (fun c2 => ?_) (fun c2 => ?_)
  · have hf := oift c2 hf
    refine lv_iconst (v := 0) hx hb dX9_places_105 (by decide) ?_
    obtain ⟨rfl, rfl⟩ := oret hf
    exact zw_zreturn F (by decide) hW hS dX9_places_106
  · have hf := oiff c2 hf
    refine lv_iconst (v := 1) hx hb dX9_places_101 (by decide) ?_
    refine lv_goto (tgt := 106) hx hb dX9_places_102 (by decide) ?_
    obtain ⟨rfl, rfl⟩ := oret hf
    exact zw_zreturn F (by decide) hW hS dX9_places_106
set_option maxRecDepth 100000 in
set_option maxHeartbeats 4000000 in
theorem kX9_places_w (F : zF p s m args meth c cX9_places 6 RX9 (some .boolean)) {r : Int32} {h' : zH} (a0 : Option Nat) (a1 : Int32) (a2 : Int32) (a3 : Int32) (h : zH) (hf : fX9_places a0 a1 a2 a3 h = some (r, h')) (H : Heap) (locs : List Loc) (ls : Array Slot) (hl : zhas ls 6 [(0, va_rf a0), (1, .int a1), (2, .int a2), (3, .int a3)]) (hW : z_W D base s h H) (hS : va_S (zA base) s.heap H locs) : W p l e rmX9_places s m args below meth c H locs 0 0 (MQ below (zQ D base (some (.int r)) h') args s rmX9_places.cells rmX9_places.slots (zA base)) (F0 m 0 ls []) := by
  obtain ⟨hx, hb, hml, hown, hts, hret, hlk, hZ⟩ := id F
  unfold fX9_places at hf
  refine lv_iconst (v := (-1)) hx hb dX9_places_0 (by decide) ?_
  refine zl_istore (lv' := [(4, .int (-1)), (0, va_rf a0), (1, .int a1), (2, .int a2), (3, .int a3)]) hx hb dX9_places_1 hl (by decide) rfl (fun ls hl => ?_)
  refine lv_iconst (v := (-1)) hx hb dX9_places_3 (by decide) ?_
  refine zl_istore (lv' := [(5, .int (-1)), (4, .int (-1)), (0, va_rf a0), (1, .int a1), (2, .int a2), (3, .int a3)]) hx hb dX9_places_4 hl (by decide) rfl (fun ls hl => ?_)
  refine lv_iload_n hx hb dX9_places_6 rfl (lv_at hl.1 4 rfl) ?_
  by_cases c1 : a2 = 2
  · have hf := oift c1 hf
    refine zl_tab hx hb (2) (29) (tgt := 36) dX9_places_7 (by rw [c1]; decide) (by decide) ?_
    refine zw_aload_n hx hb dX9_places_36 rfl (lv_at hl.1 2 rfl) ?_
    obtain ⟨v2, e2, hf⟩ := ob hf
    refine zw_gR hx hb hts inX9 hown hW (ci := 9) rfl (by decide) 28 (by decide) (hts _ wd_617) e2 (fun _ _ => rfl) dX9_places_37 ?_
    refine lv_iload_n hx hb dX9_places_40 rfl (lv_at hl.1 5 rfl) ?_
    obtain ⟨v3, e3, hf⟩ := ob hf
    refine zw_aI hx hb hW e3 dX9_places_41 ?_
    refine lv_bipush (v := 99) hx hb dX9_places_42 (by decide) ?_
    refine lv_icmp_eq (tgt := 64) hx hb dX9_places_44 (by decide) (fun c4 => ?_) (fun c4 => ?_)
    · have hf := oift c4 hf
      refine lv_iconst (v := 0) hx hb dX9_places_64 (by decide) ?_
      obtain ⟨rfl, rfl⟩ := oret hf
      exact zw_zreturn F (by decide) hW hS dX9_places_65
    · have hf := oiff c4 hf
      refine zw_aload_n hx hb dX9_places_47 rfl (lv_at hl.1 2 rfl) ?_
      refine zw_aload_n hx hb dX9_places_48 rfl (lv_at hl.1 2 rfl) ?_
      obtain ⟨v5, e5, hf⟩ := ob hf
      refine zw_gR hx hb hts inX9 hown hW (ci := 9) rfl (by decide) 28 (by decide) (hts _ wd_617) e5 (fun _ _ => rfl) dX9_places_49 ?_
      refine lv_iload_n hx hb dX9_places_52 rfl (lv_at hl.1 5 rfl) ?_
      obtain ⟨v6, e6, hf⟩ := ob hf
      refine zw_aI hx hb hW e6 dX9_places_53 ?_
      obtain ⟨a907, j7, hf⟩ := ob hf
      obtain ⟨q7, e7, hf⟩ := ob hf
      refine zw_callV (rest := []) (n := 1) F (kX9_push (r := q7.1) (h' := q7.2) l D base a0 v6 h e7) 9 rfl (by decide) j7 wd_765 wd_767 ws_34 wd_6 wd_768 (by decide +kernel) ⟨by decide, by decide⟩ hW hS rfl hl.1.1 (by decide) rfl ⟨(by decide), (by decide)⟩ dX9_places_54 (fun H locs hW hS => ?_)
      refine W.eq (g2 := F0 m 57 ls [.int q7.1]) rfl ?_
      refine lv_if_eq (tgt := 64) hx hb dX9_places_57 (by decide) (fun c8 => ?_) (fun c8 => ?_)
      · have hf := oift c8 hf
        refine lv_iconst (v := 0) hx hb dX9_places_64 (by decide) ?_
        obtain ⟨rfl, rfl⟩ := oret hf
        exact zw_zreturn F (by decide) hW hS dX9_places_65
      · have hf := oiff c8 hf
        refine lv_iconst (v := 1) hx hb dX9_places_60 (by decide) ?_
        refine lv_goto (tgt := 65) hx hb dX9_places_61 (by decide) ?_
        obtain ⟨rfl, rfl⟩ := oret hf
        exact zw_zreturn F (by decide) hW hS dX9_places_65
  · have hf := oiff c1 hf
    by_cases c9 : a2 = 3
    · have hf := oift c9 hf
      refine zl_tab hx hb (3) (59) (tgt := 66) dX9_places_7 (by rw [c9]; decide) (by decide) ?_
      refine zw_aload_n hx hb dX9_places_66 rfl (lv_at hl.1 2 rfl) ?_
      obtain ⟨a910, j10, hf⟩ := ob hf
      obtain ⟨q10, e10, hf⟩ := ob hf
      refine zw_callV (rest := []) (n := 0) F (kX9_pop (r := q10.1) (h' := q10.2) l D base a0 h e10) 9 rfl (by decide) j10 wd_777 wd_779 ws_37 wd_6 wd_780 (by decide +kernel) ⟨by decide, by decide⟩ hW hS rfl hl.1.1 (by decide) rfl ⟨(by decide), (by decide)⟩ dX9_places_67 (fun H locs hW hS => ?_)
      refine W.eq (g2 := F0 m 70 ls [.int q10.1]) rfl ?_
      refine zl_istore (lv' := [(4, .int q10.1), (5, .int (-1)), (0, va_rf a0), (1, .int a1), (2, .int a2), (3, .int a3)]) hx hb dX9_places_70 hl (by decide) rfl (fun ls hl => ?_)
      refine zw_aload_n hx hb dX9_places_72 rfl (lv_at hl.1 2 rfl) ?_
      obtain ⟨v11, e11, hf⟩ := ob hf
      refine zw_gR hx hb hts inX9 hown hW (ci := 9) rfl (by decide) 28 (by decide) (hts _ wd_617) e11 (fun _ _ => rfl) dX9_places_73 ?_
      refine lv_iload_n hx hb dX9_places_76 rfl (lv_at hl.1 5 rfl) ?_
      refine lv_iload hx hb dX9_places_77 (lv_at hl.1 0 rfl) ?_
      refine lv_iconst (v := (-1)) hx hb dX9_places_79 (by decide) ?_
      refine lv_icmp_ne (tgt := 92) hx hb dX9_places_80 (by decide) (fun c12 => ?_) (fun c12 => ?_)
      · have hf := oiff c12 hf
        refine lv_iload hx hb dX9_places_92 (lv_at hl.1 0 rfl) ?_
        exact kX9_places_b94 F q10.1 q10.1 a3 v11 q10.2 hf H locs ls (z_sub hl [0] rfl) hW hS
      · have hf := oift c12 hf
        refine zw_aload_n hx hb dX9_places_83 rfl (lv_at hl.1 2 rfl) ?_
        obtain ⟨v13, e13, hf⟩ := ob hf
        refine zw_gR hx hb hts inX9 hown hW (ci := 9) rfl (by decide) 28 (by decide) (hts _ wd_617) e13 (fun _ _ => rfl) dX9_places_84 ?_
        refine lv_iload_n hx hb dX9_places_87 rfl (lv_at hl.1 5 rfl) ?_
        obtain ⟨v14, e14, hf⟩ := ob hf
        refine zw_aI hx hb hW e14 dX9_places_88 ?_
        refine lv_goto (tgt := 94) hx hb dX9_places_89 (by decide) ?_
        exact kX9_places_b94 F q10.1 v14 a3 v11 q10.2 hf H locs ls (z_sub hl [0] rfl) hW hS
    · have hf := oiff c9 hf
      by_cases c15 : a2 = 4
      · have hf := oift c15 hf
        refine zl_tab hx hb (4) (100) (tgt := 107) dX9_places_7 (by rw [c15]; decide) (by decide) ?_
        refine zw_aload_n hx hb dX9_places_107 rfl (lv_at hl.1 2 rfl) ?_
        obtain ⟨a916, j16, hf⟩ := ob hf
        obtain ⟨q16, e16, hf⟩ := ob hf
        refine zw_callV (rest := []) (n := 0) F (kX9_pop (r := q16.1) (h' := q16.2) l D base a0 h e16) 9 rfl (by decide) j16 wd_777 wd_779 ws_37 wd_6 wd_780 (by decide +kernel) ⟨by decide, by decide⟩ hW hS rfl hl.1.1 (by decide) rfl ⟨(by decide), (by decide)⟩ dX9_places_108 (fun H locs hW hS => ?_)
        refine W.eq (g2 := F0 m 111 ls [.int q16.1]) rfl ?_
        refine lv_iconst (v := (-1)) hx hb dX9_places_111 (by decide) ?_
        refine lv_icmp_eq (tgt := 119) hx hb dX9_places_112 (by decide) (fun c17 => ?_) (fun c17 => ?_)
        · have hf := oift c17 hf
          refine lv_iconst (v := 0) hx hb dX9_places_119 (by decide) ?_
          obtain ⟨rfl, rfl⟩ := oret hf
          exact zw_zreturn F (by decide) hW hS dX9_places_120
        · have hf := oiff c17 hf
          refine lv_iconst (v := 1) hx hb dX9_places_115 (by decide) ?_
          refine lv_goto (tgt := 120) hx hb dX9_places_116 (by decide) ?_
          obtain ⟨rfl, rfl⟩ := oret hf
          exact zw_zreturn F (by decide) hW hS dX9_places_120
      · have hf := oiff c15 hf
        by_cases c18 : a2 = 5
        · have hf := oift c18 hf
          refine zl_tab hx hb (5) (114) (tgt := 121) dX9_places_7 (by rw [c18]; decide) (by decide) ?_
          refine zw_aload_n hx hb dX9_places_121 rfl (lv_at hl.1 2 rfl) ?_
          obtain ⟨a919, j19, hf⟩ := ob hf
          obtain ⟨q19, e19, hf⟩ := ob hf
          refine zw_callV (rest := []) (n := 0) F (kX9_pop (r := q19.1) (h' := q19.2) l D base a0 h e19) 9 rfl (by decide) j19 wd_777 wd_779 ws_37 wd_6 wd_780 (by decide +kernel) ⟨by decide, by decide⟩ hW hS rfl hl.1.1 (by decide) rfl ⟨(by decide), (by decide)⟩ dX9_places_122 (fun H locs hW hS => ?_)
          refine W.eq (g2 := F0 m 125 ls [.int q19.1]) rfl ?_
          refine zl_istore (lv' := [(4, .int q19.1), (5, .int (-1)), (0, va_rf a0), (1, .int a1), (2, .int a2), (3, .int a3)]) hx hb dX9_places_125 hl (by decide) rfl (fun ls hl => ?_)
          refine lv_iload hx hb dX9_places_127 (lv_at hl.1 0 rfl) ?_
          refine lv_iconst (v := (-1)) hx hb dX9_places_129 (by decide) ?_
          refine lv_icmp_eq (tgt := 155) hx hb dX9_places_130 (by decide) (fun c20 => ?_) (fun c20 => ?_)
          · have hf := oift c20 hf
            refine lv_iconst (v := 0) hx hb dX9_places_155 (by decide) ?_
            obtain ⟨rfl, rfl⟩ := oret hf
            exact zw_zreturn F (by decide) hW hS dX9_places_156
          · have hf := oiff c20 hf
            refine zw_aload_n hx hb dX9_places_133 rfl (lv_at hl.1 2 rfl) ?_
            refine lv_iload hx hb dX9_places_134 (lv_at hl.1 0 rfl) ?_
            obtain ⟨a921, j21, hf⟩ := ob hf
            obtain ⟨q21, e21, hf⟩ := ob hf
            refine zw_callV (rest := []) (n := 1) F (kX9_push (r := q21.1) (h' := q21.2) l D base a0 q19.1 q19.2 e21) 9 rfl (by decide) j21 wd_765 wd_767 ws_34 wd_6 wd_768 (by decide +kernel) ⟨by decide, by decide⟩ hW hS rfl hl.1.1 (by decide) rfl ⟨(by decide), (by decide)⟩ dX9_places_136 (fun H locs hW hS => ?_)
            refine W.eq (g2 := F0 m 139 ls [.int q21.1]) rfl ?_
            refine lv_if_eq (tgt := 155) hx hb dX9_places_139 (by decide) (fun c22 => ?_) (fun c22 => ?_)
            · have hf := oift c22 hf
              refine lv_iconst (v := 0) hx hb dX9_places_155 (by decide) ?_
              obtain ⟨rfl, rfl⟩ := oret hf
              exact zw_zreturn F (by decide) hW hS dX9_places_156
            · have hf := oiff c22 hf
              refine zw_aload_n hx hb dX9_places_142 rfl (lv_at hl.1 2 rfl) ?_
              refine lv_iload hx hb dX9_places_143 (lv_at hl.1 0 rfl) ?_
              obtain ⟨a923, j23, hf⟩ := ob hf
              obtain ⟨q23, e23, hf⟩ := ob hf
              refine zw_callV (rest := []) (n := 1) F (kX9_push (r := q23.1) (h' := q23.2) l D base a0 q19.1 q21.2 e23) 9 rfl (by decide) j23 wd_765 wd_767 ws_34 wd_6 wd_768 (by decide +kernel) ⟨by decide, by decide⟩ hW hS rfl hl.1.1 (by decide) rfl ⟨(by decide), (by decide)⟩ dX9_places_145 (fun H locs hW hS => ?_)
              refine W.eq (g2 := F0 m 148 ls [.int q23.1]) rfl ?_
              refine lv_if_eq (tgt := 155) hx hb dX9_places_148 (by decide) (fun c24 => ?_) (fun c24 => ?_)
              · have hf := oift c24 hf
                refine lv_iconst (v := 0) hx hb dX9_places_155 (by decide) ?_
                obtain ⟨rfl, rfl⟩ := oret hf
                exact zw_zreturn F (by decide) hW hS dX9_places_156
              · have hf := oiff c24 hf
                refine lv_iconst (v := 1) hx hb dX9_places_151 (by decide) ?_
                refine lv_goto (tgt := 156) hx hb dX9_places_152 (by decide) ?_
                obtain ⟨rfl, rfl⟩ := oret hf
                exact zw_zreturn F (by decide) hW hS dX9_places_156
        · have hf := oiff c18 hf
          refine zl_tabD hx hb [2, 3, 4, 5] (tgt := 157) dX9_places_7 (fun k hk => by simp only [List.mem_cons, List.not_mem_nil, or_false] at hk; rcases hk with rfl | rfl | rfl | rfl <;> first | exact lv_neT c1 (by decide) | exact lv_neT c9 (by decide) | exact lv_neT c15 (by decide) | exact lv_neT c18 (by decide)) (by decide) ?_
          refine zw_aload_n hx hb dX9_places_157 rfl (lv_at hl.1 2 rfl) ?_
          obtain ⟨a925, j25, hf⟩ := ob hf
          obtain ⟨q25, e25, hf⟩ := ob hf
          refine zw_callV (rest := []) (n := 0) F (kX9_pop (r := q25.1) (h' := q25.2) l D base a0 h e25) 9 rfl (by decide) j25 wd_777 wd_779 ws_37 wd_6 wd_780 (by decide +kernel) ⟨by decide, by decide⟩ hW hS rfl hl.1.1 (by decide) rfl ⟨(by decide), (by decide)⟩ dX9_places_158 (fun H locs hW hS => ?_)
          refine W.eq (g2 := F0 m 161 ls [.int q25.1]) rfl ?_
          refine zl_istore (lv' := [(4, .int q25.1), (5, .int (-1)), (0, va_rf a0), (1, .int a1), (2, .int a2), (3, .int a3)]) hx hb dX9_places_161 hl (by decide) rfl (fun ls hl => ?_)
          refine lv_iload hx hb dX9_places_163 (lv_at hl.1 0 rfl) ?_
          refine lv_iconst (v := (-1)) hx hb dX9_places_165 (by decide) ?_
          refine lv_icmp_ne (tgt := 173) hx hb dX9_places_166 (by decide) (fun c26 => ?_) (fun c26 => ?_)
          · have hf := oiff c26 hf
            refine zw_aload_n hx hb dX9_places_173 rfl (lv_at hl.1 2 rfl) ?_
            obtain ⟨a927, j27, hf⟩ := ob hf
            obtain ⟨q27, e27, hf⟩ := ob hf
            refine zw_callV (rest := []) (n := 0) F (kX9_pop (r := q27.1) (h' := q27.2) l D base a0 q25.2 e27) 9 rfl (by decide) j27 wd_777 wd_779 ws_37 wd_6 wd_780 (by decide +kernel) ⟨by decide, by decide⟩ hW hS rfl hl.1.1 (by decide) rfl ⟨(by decide), (by decide)⟩ dX9_places_174 (fun H locs hW hS => ?_)
            refine W.eq (g2 := F0 m 177 ls [.int q27.1]) rfl ?_
            exact kX9_places_b177 F a0 q25.1 q27.1 q27.2 hf H locs ls (z_sub hl [2, 0] rfl) hW hS
          · have hf := oift c26 hf
            refine lv_iconst (v := (-1)) hx hb dX9_places_169 (by decide) ?_
            refine lv_goto (tgt := 177) hx hb dX9_places_170 (by decide) ?_
            exact kX9_places_b177 F a0 q25.1 (-1) q25.2 hf H locs ls (z_sub hl [2, 0] rfl) hW hS
set_option maxRecDepth 100000 in
set_option maxHeartbeats 4000000 in
theorem kX9_places (l : Launch) (D : va_G) (base : Nat) (a0 : Option Nat) (a1 : Int32) (a2 : Int32) (a3 : Int32) (h : zH) {r : Int32} {h' : zH} (hf : fX9_places a0 a1 a2 a3 h = some (r, h')) : zMet l D base yX9_places cX9_places 6 (some .boolean) rmX9_places h [va_rf a0, .int a1, .int a2, .int a3] (some (.int r)) h' :=
  zMet.of (by decide +kernel) (fun v hv => by simp only [List.mem_cons, List.not_mem_nil, or_false] at hv; rcases hv with rfl | rfl | rfl | rfl <;> first | rfl | exact va_rf_cat _) (Nat.le_of_ble_eq_true rfl) (fun p e s m args below meth c ls F hi hl hW hS => kX9_places_w F a0 a1 a2 a3 h hf s.heap [] ls hl hW hS)
end
