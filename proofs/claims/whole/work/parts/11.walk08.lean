section
variable {p : Program} {l : Launch} {e : Env} {s : State} {m : MethodId} {args : Array Value} {below : List Frame} {meth : Method} {c : Code} {D : va_G} {base : Nat}
set_option maxRecDepth 100000 in
set_option maxHeartbeats 4000000 in
theorem kX9_method_b158 {r : Int32} {h' : zH} (F : zF p s m args meth c cX9_method 6 RX9 (some .int)) (l0 : Option Nat) (l5 : Int32) (h : zH) (hf : fX9_method_b158 l0 l5 h = some (r, h')) (H : Heap) (locs : List Loc) (ls : Array Slot) (hl : zhas ls 6 [(0, va_rf l0), (5, .int l5)]) (hW : z_W D base s h H) (hS : va_S (zA base) s.heap H locs) : W p l e rmX9_method s m args below meth c H locs 0 0 (MQ below (zQ D base (some (.int r)) h') args s rmX9_method.cells rmX9_method.slots (zA base)) (F0 m 158 ls []) := by
  obtain ⟨hx, hb, hml, hown, hts, hret, hlk, hZ⟩ := id F
  unfold fX9_method_b158 at hf
  refine zw_aload_n hx hb dX9_method_158 rfl (lv_at hl.1 0 rfl) ?_
  refine lv_dup hx hb dX9_method_159 (va_rf_cat _) ?_
  obtain ⟨v1, e1, hf⟩ := ob hf
  refine zw_gI hx hb hts inX9 hown hW (ci := 9) rfl (by decide) 6 (by decide) (hts _ wd_595) e1 (fun _ _ => rfl) dX9_method_160 ?_
  refine lv_iconst (v := 1) hx hb dX9_method_163 (by decide) ?_
  refine lv_iadd hx hb dX9_method_164 ?_
  obtain ⟨h2, e2, hf⟩ := ob hf
  refine zw_pI hx hb hts inX9 tyX9 tyX9_ok nmX9 hown hW hS (ci := 9) rfl (by decide) 6 (by decide) (hts _ wd_595) (Or.inl rfl) (fun _ _ => rfl) rfl rfl e2 dX9_method_165 (fun H locs hW hS => ?_)
  refine lv_iload hx hb dX9_method_168 (lv_at hl.1 1 rfl) ?_
  obtain ⟨rfl, rfl⟩ := oret hf
  exact zw_ireturn F hW hS dX9_method_170
set_option maxRecDepth 100000 in
set_option maxHeartbeats 4000000 in
theorem kX9_method_b67 {r : Int32} {h' : zH} (F : zF p s m args meth c cX9_method 6 RX9 (some .int)) (l0 : Option Nat) (l1 : Int32) (l2 : Int32) (l3 : Int32) (l4 : Int32) (h : zH) (hf : fX9_method_b67 l0 l1 l2 l3 l4 h = some (r, h')) (H : Heap) (locs : List Loc) (ls : Array Slot) (hl : zhas ls 6 [(0, va_rf l0), (1, .int l1), (2, .int l2), (3, .int l3), (4, .int l4)]) (hW : z_W D base s h H) (hS : va_S (zA base) s.heap H locs) : W p l e rmX9_method s m args below meth c H locs 0 0 (MQ below (zQ D base (some (.int r)) h') args s rmX9_method.cells rmX9_method.slots (zA base)) (F0 m 67 ls []) := by
  obtain ⟨hx, hb, hml, hown, hts, hret, hlk, hZ⟩ := id F
  unfold fX9_method_b67 at hf
  refine zw_aload_n hx hb dX9_method_67 rfl (lv_at hl.1 0 rfl) ?_
  obtain ⟨v1, e1, hf⟩ := ob hf
  refine zw_gI hx hb hts inX9 hown hW (ci := 9) rfl (by decide) 6 (by decide) (hts _ wd_595) e1 (fun _ _ => rfl) dX9_method_68 ?_
  refine lv_bipush (v := 64) hx hb dX9_method_71 (by decide) ?_
  refine lv_icmp_ne (tgt := 79) hx hb dX9_method_73 (by decide) (fun c2 => ?_) (fun c2 => ?_)
  · have hf := oiff c2 hf
    refine zw_aload_n hx hb dX9_method_79 rfl (lv_at hl.1 0 rfl) ?_
    obtain ⟨v3, e3, hf⟩ := ob hf
    refine zw_gI hx hb hts inX9 hown hW (ci := 9) rfl (by decide) 6 (by decide) (hts _ wd_595) e3 (fun _ _ => rfl) dX9_method_80 ?_
    refine zl_istore (lv' := [(5, .int v3), (0, va_rf l0), (1, .int l1), (2, .int l2), (3, .int l3), (4, .int l4)]) hx hb dX9_method_83 hl (by decide) rfl (fun ls hl => ?_)
    refine zw_aload_n hx hb dX9_method_85 rfl (lv_at hl.1 1 rfl) ?_
    obtain ⟨v4, e4, hf⟩ := ob hf
    refine zw_gR hx hb hts inX9 hown hW (ci := 9) rfl (by decide) 7 (by decide) (hts _ wd_596) e4 (fun _ _ => rfl) dX9_method_86 ?_
    refine lv_iload hx hb dX9_method_89 (lv_at hl.1 0 rfl) ?_
    refine lv_iload_n hx hb dX9_method_91 rfl (lv_at hl.1 2 rfl) ?_
    obtain ⟨h5, e5, hf⟩ := ob hf
    refine zw_sI hx hb hW hS e5 dX9_method_92 (fun H locs hW hS => ?_)
    refine zw_aload_n hx hb dX9_method_93 rfl (lv_at hl.1 1 rfl) ?_
    obtain ⟨v6, e6, hf⟩ := ob hf
    refine zw_gR hx hb hts inX9 hown hW (ci := 9) rfl (by decide) 8 (by decide) (hts _ wd_597) e6 (fun _ _ => rfl) dX9_method_94 ?_
    refine lv_iload hx hb dX9_method_97 (lv_at hl.1 0 rfl) ?_
    refine lv_iload_n hx hb dX9_method_99 rfl (lv_at hl.1 3 rfl) ?_
    obtain ⟨h7, e7, hf⟩ := ob hf
    refine zw_sI hx hb hW hS e7 dX9_method_100 (fun H locs hW hS => ?_)
    refine zw_aload_n hx hb dX9_method_101 rfl (lv_at hl.1 1 rfl) ?_
    obtain ⟨v8, e8, hf⟩ := ob hf
    refine zw_gR hx hb hts inX9 hown hW (ci := 9) rfl (by decide) 9 (by decide) (hts _ wd_598) e8 (fun _ _ => rfl) dX9_method_102 ?_
    refine lv_iload hx hb dX9_method_105 (lv_at hl.1 0 rfl) ?_
    refine lv_iload_n hx hb dX9_method_107 rfl (lv_at hl.1 4 rfl) ?_
    obtain ⟨h9, e9, hf⟩ := ob hf
    refine zw_sI hx hb hW hS e9 dX9_method_108 (fun H locs hW hS => ?_)
    refine zw_aload_n hx hb dX9_method_109 rfl (lv_at hl.1 1 rfl) ?_
    obtain ⟨v10, e10, hf⟩ := ob hf
    refine zw_gR hx hb hts inX9 hown hW (ci := 9) rfl (by decide) 10 (by decide) (hts _ wd_599) e10 (fun _ _ => rfl) dX9_method_110 ?_
    refine lv_iload hx hb dX9_method_113 (lv_at hl.1 0 rfl) ?_
    refine lv_iload hx hb dX9_method_115 (lv_at hl.1 5 rfl) ?_
    obtain ⟨h11, e11, hf⟩ := ob hf
    refine zw_sI hx hb hW hS e11 dX9_method_117 (fun H locs hW hS => ?_)
    refine zw_aload_n hx hb dX9_method_118 rfl (lv_at hl.1 1 rfl) ?_
    obtain ⟨v12, e12, hf⟩ := ob hf
    refine zw_gR hx hb hts inX9 hown hW (ci := 9) rfl (by decide) 11 (by decide) (hts _ wd_600) e12 (fun _ _ => rfl) dX9_method_119 ?_
    refine lv_iload hx hb dX9_method_122 (lv_at hl.1 0 rfl) ?_
    refine lv_iconst (v := 0) hx hb dX9_method_124 (by decide) ?_
    obtain ⟨h13, e13, hf⟩ := ob hf
    refine zw_sI hx hb hW hS e13 dX9_method_125 (fun H locs hW hS => ?_)
    refine lv_iload_n hx hb dX9_method_126 rfl (lv_at hl.1 2 rfl) ?_
    refine lv_if_lt (tgt := 158) hx hb dX9_method_127 (by decide) (fun c14 => ?_) (fun c14 => ?_)
    · have hf := oift c14 hf
      exact kX9_method_b158 F l0 v3 h13 hf H locs ls (z_sub hl [1, 0] rfl) hW hS
    · have hf := oiff c14 hf
      refine zw_aload_n hx hb dX9_method_130 rfl (lv_at hl.1 1 rfl) ?_
      obtain ⟨v15, e15, hf⟩ := ob hf
      refine zw_gR hx hb hts inX9 hown hW (ci := 9) rfl (by decide) 12 (by decide) (hts _ wd_601) e15 (fun _ _ => rfl) dX9_method_131 ?_
      refine lv_bipush (v := 8) hx hb dX9_method_134 (by decide) ?_
      refine lv_iload hx hb dX9_method_136 (lv_at hl.1 0 rfl) ?_
      refine lv_imul hx hb dX9_method_138 ?_
      refine lv_iconst (v := 1) hx hb dX9_method_139 (by decide) ?_
      refine lv_iload_n hx hb dX9_method_140 rfl (lv_at hl.1 2 rfl) ?_
      refine lv_iadd hx hb dX9_method_141 ?_
      obtain ⟨h16, e16, hf⟩ := ob hf
      refine zw_sI hx hb hW hS e16 dX9_method_142 (fun H locs hW hS => ?_)
      refine zw_aload_n hx hb dX9_method_143 rfl (lv_at hl.1 1 rfl) ?_
      obtain ⟨v17, e17, hf⟩ := ob hf
      refine zw_gR hx hb hts inX9 hown hW (ci := 9) rfl (by decide) 11 (by decide) (hts _ wd_600) e17 (fun _ _ => rfl) dX9_method_144 ?_
      refine lv_iload hx hb dX9_method_147 (lv_at hl.1 0 rfl) ?_
      refine lv_iconst (v := 1) hx hb dX9_method_149 (by decide) ?_
      obtain ⟨h18, e18, hf⟩ := ob hf
      refine zw_sI hx hb hW hS e18 dX9_method_150 (fun H locs hW hS => ?_)
      refine zw_aload_n hx hb dX9_method_151 rfl (lv_at hl.1 1 rfl) ?_
      obtain ⟨v19, e19, hf⟩ := ob hf
      refine zw_gR hx hb hts inX9 hown hW (ci := 9) rfl (by decide) 2 (by decide) (hts _ wd_591) e19 (fun _ _ => rfl) dX9_method_152 ?_
      refine lv_iload_n hx hb dX9_method_155 rfl (lv_at hl.1 2 rfl) ?_
      refine lv_iconst (v := 1) hx hb dX9_method_156 (by decide) ?_
      obtain ⟨h20, e20, hf⟩ := ob hf
      refine zw_sZ hx hb hW hS e20 dX9_method_157 (fun H locs hW hS => ?_)
      exact kX9_method_b158 F l0 v3 h20 hf H locs ls (z_sub hl [1, 0] rfl) hW hS
  · have hf := oift c2 hf
    refine lv_bipush (v := (-2)) hx hb dX9_method_76 (by decide) ?_
    obtain ⟨rfl, rfl⟩ := oret hf
    exact zw_ireturn F hW hS dX9_method_78
set_option maxRecDepth 100000 in
set_option maxHeartbeats 4000000 in
theorem kX9_method_b26 {r : Int32} {h' : zH} (F : zF p s m args meth c cX9_method 6 RX9 (some .int)) (l0 : Option Nat) (l1 : Int32) (l2 : Int32) (l3 : Int32) (l4 : Int32) (h : zH) (hf : fX9_method_b26 l0 l1 l2 l3 l4 h = some (r, h')) (H : Heap) (locs : List Loc) (ls : Array Slot) (hl : zhas ls 6 [(0, va_rf l0), (1, .int l1), (2, .int l2), (3, .int l3), (4, .int l4)]) (hW : z_W D base s h H) (hS : va_S (zA base) s.heap H locs) : W p l e rmX9_method s m args below meth c H locs 0 0 (MQ below (zQ D base (some (.int r)) h') args s rmX9_method.cells rmX9_method.slots (zA base)) (F0 m 26 ls []) := by
  obtain ⟨hx, hb, hml, hown, hts, hret, hlk, hZ⟩ := id F
  unfold fX9_method_b26 at hf
  refine lv_iload_n hx hb dX9_method_26 rfl (lv_at hl.1 3 rfl) ?_
  refine lv_if_lt (tgt := 65) hx hb dX9_method_27 (by decide) (fun c1 => ?_) (fun c1 => ?_)
  · have hf := oift c1 hf
    refine lv_iconst (v := (-1)) hx hb dX9_method_65 (by decide) ?_
    obtain ⟨rfl, rfl⟩ := oret hf
    exact zw_ireturn F hW hS dX9_method_66
  · have hf := oiff c1 hf
    refine lv_iload hx hb dX9_method_30 (lv_at hl.1 4 rfl) ?_
    refine lv_if_lt (tgt := 65) hx hb dX9_method_32 (by decide) (fun c2 => ?_) (fun c2 => ?_)
    · have hf := oift c2 hf
      refine lv_iconst (v := (-1)) hx hb dX9_method_65 (by decide) ?_
      obtain ⟨rfl, rfl⟩ := oret hf
      exact zw_ireturn F hW hS dX9_method_66
    · have hf := oiff c2 hf
      refine lv_iload_n hx hb dX9_method_35 rfl (lv_at hl.1 3 rfl) ?_
      refine lv_bipush (v := 12) hx hb dX9_method_36 (by decide) ?_
      refine lv_icmp_gt (tgt := 65) hx hb dX9_method_38 (by decide) (fun c3 => ?_) (fun c3 => ?_)
      · have hf := oift c3 hf
        refine lv_iconst (v := (-1)) hx hb dX9_method_65 (by decide) ?_
        obtain ⟨rfl, rfl⟩ := oret hf
        exact zw_ireturn F hW hS dX9_method_66
      · have hf := oiff c3 hf
        refine lv_iload hx hb dX9_method_41 (lv_at hl.1 4 rfl) ?_
        refine lv_bipush (v := 12) hx hb dX9_method_43 (by decide) ?_
        refine lv_icmp_gt (tgt := 65) hx hb dX9_method_45 (by decide) (fun c4 => ?_) (fun c4 => ?_)
        · have hf := oift c4 hf
          refine lv_iconst (v := (-1)) hx hb dX9_method_65 (by decide) ?_
          obtain ⟨rfl, rfl⟩ := oret hf
          exact zw_ireturn F hW hS dX9_method_66
        · have hf := oiff c4 hf
          refine lv_iload_n hx hb dX9_method_48 rfl (lv_at hl.1 3 rfl) ?_
          refine lv_iload hx hb dX9_method_49 (lv_at hl.1 4 rfl) ?_
          refine lv_iadd hx hb dX9_method_51 ?_
          refine lv_bipush (v := 12) hx hb dX9_method_52 (by decide) ?_
          refine lv_icmp_gt (tgt := 65) hx hb dX9_method_54 (by decide) (fun c5 => ?_) (fun c5 => ?_)
          · have hf := oift c5 hf
            refine lv_iconst (v := (-1)) hx hb dX9_method_65 (by decide) ?_
            obtain ⟨rfl, rfl⟩ := oret hf
            exact zw_ireturn F hW hS dX9_method_66
          · have hf := oiff c5 hf
            refine lv_iload_n hx hb dX9_method_57 rfl (lv_at hl.1 1 rfl) ?_
            refine lv_if_lt (tgt := 67) hx hb dX9_method_58 (by decide) (fun c6 => ?_) (fun c6 => ?_)
            · have hf := oift c6 hf
              exact kX9_method_b67 F l0 l1 l2 l3 l4 h hf H locs ls (z_sub hl [0, 1, 2, 3, 4] rfl) hW hS
            · have hf := oiff c6 hf
              refine lv_iload_n hx hb dX9_method_61 rfl (lv_at hl.1 3 rfl) ?_
              refine lv_if_ne (tgt := 67) hx hb dX9_method_62 (by decide) (fun c7 => ?_) (fun c7 => ?_)
              · have hf := oiff c7 hf
                exact kX9_method_b67 F l0 l1 l2 l3 l4 h hf H locs ls (z_sub hl [0, 1, 2, 3, 4] rfl) hW hS
              · have hf := oift c7 hf
                refine lv_iconst (v := (-1)) hx hb dX9_method_65 (by decide) ?_
                obtain ⟨rfl, rfl⟩ := oret hf
                exact zw_ireturn F hW hS dX9_method_66
set_option maxRecDepth 100000 in
set_option maxHeartbeats 4000000 in
theorem kX9_method_b13 {r : Int32} {h' : zH} (F : zF p s m args meth c cX9_method 6 RX9 (some .int)) (l0 : Option Nat) (l1 : Int32) (l2 : Int32) (l3 : Int32) (l4 : Int32) (h : zH) (hf : fX9_method_b13 l0 l1 l2 l3 l4 h = some (r, h')) (H : Heap) (locs : List Loc) (ls : Array Slot) (hl : zhas ls 6 [(0, va_rf l0), (1, .int l1), (2, .int l2), (3, .int l3), (4, .int l4)]) (hW : z_W D base s h H) (hS : va_S (zA base) s.heap H locs) : W p l e rmX9_method s m args below meth c H locs 0 0 (MQ below (zQ D base (some (.int r)) h') args s rmX9_method.cells rmX9_method.slots (zA base)) (F0 m 13 ls []) := by
  obtain ⟨hx, hb, hml, hown, hts, hret, hlk, hZ⟩ := id F
  unfold fX9_method_b13 at hf
  refine lv_iload_n hx hb dX9_method_13 rfl (lv_at hl.1 2 rfl) ?_
  refine lv_iconst (v := (-1)) hx hb dX9_method_14 (by decide) ?_
  refine lv_icmp_eq (tgt := 26) hx hb dX9_method_15 (by decide) (fun c1 => ?_) (fun c1 => ?_)
  · have hf := oift c1 hf
    exact kX9_method_b26 F l0 l1 l2 l3 l4 h hf H locs ls (z_sub hl [0, 1, 2, 3, 4] rfl) hW hS
  · have hf := oiff c1 hf
    refine zw_aload_n hx hb dX9_method_18 rfl (lv_at hl.1 0 rfl) ?_
    refine lv_iload_n hx hb dX9_method_19 rfl (lv_at hl.1 2 rfl) ?_
    obtain ⟨a902, j2, hf⟩ := ob hf
    obtain ⟨q2, e2, hf⟩ := ob hf
    refine zw_callV (rest := []) (n := 1) F (kX9_isType (r := q2.1) (h' := q2.2) l D base l0 l2 h e2) 9 rfl (by decide) j2 wd_699 wd_701 ws_25 wd_6 wd_702 (by decide +kernel) ⟨by decide, by decide⟩ hW hS rfl hl.1.1 (by decide) rfl ⟨(by decide), (by decide)⟩ dX9_method_20 (fun H locs hW hS => ?_)
    refine W.eq (g2 := F0 m 23 ls [.int q2.1]) rfl ?_
    refine lv_if_eq (tgt := 65) hx hb dX9_method_23 (by decide) (fun c3 => ?_) (fun c3 => ?_)
    · have hf := oift c3 hf
      refine lv_iconst (v := (-1)) hx hb dX9_method_65 (by decide) ?_
      obtain ⟨rfl, rfl⟩ := oret hf
      exact zw_ireturn F hW hS dX9_method_66
    · have hf := oiff c3 hf
      exact kX9_method_b26 F l0 l1 l2 l3 l4 q2.2 hf H locs ls (z_sub hl [0, 1, 2, 3, 4] rfl) hW hS
set_option maxRecDepth 100000 in
set_option maxHeartbeats 4000000 in
theorem kX9_method_w (F : zF p s m args meth c cX9_method 6 RX9 (some .int)) {r : Int32} {h' : zH} (a0 : Option Nat) (a1 : Int32) (a2 : Int32) (a3 : Int32) (a4 : Int32) (h : zH) (hf : fX9_method a0 a1 a2 a3 a4 h = some (r, h')) (H : Heap) (locs : List Loc) (ls : Array Slot) (hl : zhas ls 6 [(0, va_rf a0), (1, .int a1), (2, .int a2), (3, .int a3), (4, .int a4)]) (hW : z_W D base s h H) (hS : va_S (zA base) s.heap H locs) : W p l e rmX9_method s m args below meth c H locs 0 0 (MQ below (zQ D base (some (.int r)) h') args s rmX9_method.cells rmX9_method.slots (zA base)) (F0 m 0 ls []) := by
  obtain ⟨hx, hb, hml, hown, hts, hret, hlk, hZ⟩ := id F
  unfold fX9_method at hf
  refine lv_iload_n hx hb dX9_method_0 rfl (lv_at hl.1 1 rfl) ?_
  refine lv_iconst (v := (-1)) hx hb dX9_method_1 (by decide) ?_
  refine lv_icmp_eq (tgt := 13) hx hb dX9_method_2 (by decide) (fun c1 => ?_) (fun c1 => ?_)
  · have hf := oift c1 hf
    exact kX9_method_b13 F a0 a1 a2 a3 a4 h hf H locs ls (z_sub hl [0, 1, 2, 3, 4] rfl) hW hS
  · have hf := oiff c1 hf
    refine zw_aload_n hx hb dX9_method_5 rfl (lv_at hl.1 0 rfl) ?_
    refine lv_iload_n hx hb dX9_method_6 rfl (lv_at hl.1 1 rfl) ?_
    obtain ⟨a902, j2, hf⟩ := ob hf
    obtain ⟨q2, e2, hf⟩ := ob hf
    refine zw_callV (rest := []) (n := 1) F (kX9_isClass (r := q2.1) (h' := q2.2) l D base a0 a1 h e2) 9 rfl (by decide) j2 wd_691 wd_693 ws_24 wd_6 wd_694 (by decide +kernel) ⟨by decide, by decide⟩ hW hS rfl hl.1.1 (by decide) rfl ⟨(by decide), (by decide)⟩ dX9_method_7 (fun H locs hW hS => ?_)
    refine W.eq (g2 := F0 m 10 ls [.int q2.1]) rfl ?_
    refine lv_if_eq (tgt := 65) hx hb dX9_method_10 (by decide) (fun c3 => ?_) (fun c3 => ?_)
    · have hf := oift c3 hf
      refine lv_iconst (v := (-1)) hx hb dX9_method_65 (by decide) ?_
      obtain ⟨rfl, rfl⟩ := oret hf
      exact zw_ireturn F hW hS dX9_method_66
    · have hf := oiff c3 hf
      exact kX9_method_b13 F a0 a1 a2 a3 a4 q2.2 hf H locs ls (z_sub hl [0, 1, 2, 3, 4] rfl) hW hS
set_option maxRecDepth 100000 in
set_option maxHeartbeats 4000000 in
theorem kX9_method (l : Launch) (D : va_G) (base : Nat) (a0 : Option Nat) (a1 : Int32) (a2 : Int32) (a3 : Int32) (a4 : Int32) (h : zH) {r : Int32} {h' : zH} (hf : fX9_method a0 a1 a2 a3 a4 h = some (r, h')) : zMet l D base yX9_method cX9_method 6 (some .int) rmX9_method h [va_rf a0, .int a1, .int a2, .int a3, .int a4] (some (.int r)) h' :=
  zMet.of (by decide +kernel) (fun v hv => by simp only [List.mem_cons, List.not_mem_nil, or_false] at hv; rcases hv with rfl | rfl | rfl | rfl | rfl <;> first | rfl | exact va_rf_cat _) (Nat.le_of_ble_eq_true rfl) (fun p e s m args below meth c ls F hi hl hW hS => kX9_method_w F a0 a1 a2 a3 a4 h hf s.heap [] ls hl hW hS)
set_option maxRecDepth 100000 in
set_option maxHeartbeats 4000000 in
theorem kX9_parameter_w (F : zF p s m args meth c cX9_parameter 3 RX9 (some .int)) {r : Int32} {h' : zH} (a0 : Option Nat) (a1 : Int32) (a2 : Int32) (h : zH) (hf : fX9_parameter a0 a1 a2 h = some (r, h')) (H : Heap) (locs : List Loc) (ls : Array Slot) (hl : zhas ls 3 [(0, va_rf a0), (1, .int a1), (2, .int a2)]) (hW : z_W D base s h H) (hS : va_S (zA base) s.heap H locs) : W p l e rmX9_parameter s m args below meth c H locs 0 0 (MQ below (zQ D base (some (.int r)) h') args s rmX9_parameter.cells rmX9_parameter.slots (zA base)) (F0 m 0 ls []) := by
  obtain ⟨hx, hb, hml, hown, hts, hret, hlk, hZ⟩ := id F
  unfold fX9_parameter at hf
  refine zw_aload_n hx hb dX9_parameter_0 rfl (lv_at hl.1 0 rfl) ?_
  refine lv_iload_n hx hb dX9_parameter_1 rfl (lv_at hl.1 1 rfl) ?_
  obtain ⟨a901, j1, hf⟩ := ob hf
  obtain ⟨q1, e1, hf⟩ := ob hf
  refine zw_callV (rest := []) (n := 1) F (kX9_isMethod (r := q1.1) (h' := q1.2) l D base a0 a1 h e1) 9 rfl (by decide) j1 wd_711 wd_713 ws_26 wd_6 wd_714 (by decide +kernel) ⟨by decide, by decide⟩ hW hS rfl hl.1.1 (by decide) rfl ⟨(by decide), (by decide)⟩ dX9_parameter_2 (fun H locs hW hS => ?_)
  refine W.eq (g2 := F0 m 5 ls [.int q1.1]) rfl ?_
  refine lv_if_eq (tgt := 60) hx hb dX9_parameter_5 (by decide) (fun c2 => ?_) (fun c2 => ?_)
  · have hf := oift c2 hf
    refine lv_iconst (v := (-1)) hx hb dX9_parameter_60 (by decide) ?_
    obtain ⟨rfl, rfl⟩ := oret hf
    exact zw_ireturn F hW hS dX9_parameter_61
  · have hf := oiff c2 hf
    refine zw_aload_n hx hb dX9_parameter_8 rfl (lv_at hl.1 0 rfl) ?_
    refine lv_iload_n hx hb dX9_parameter_9 rfl (lv_at hl.1 2 rfl) ?_
    obtain ⟨a903, j3, hf⟩ := ob hf
    obtain ⟨q3, e3, hf⟩ := ob hf
    refine zw_callV (rest := []) (n := 1) F (kX9_isType (r := q3.1) (h' := q3.2) l D base a0 a2 q1.2 e3) 9 rfl (by decide) j3 wd_699 wd_701 ws_25 wd_6 wd_702 (by decide +kernel) ⟨by decide, by decide⟩ hW hS rfl hl.1.1 (by decide) rfl ⟨(by decide), (by decide)⟩ dX9_parameter_10 (fun H locs hW hS => ?_)
    refine W.eq (g2 := F0 m 13 ls [.int q3.1]) rfl ?_
    refine lv_if_eq (tgt := 60) hx hb dX9_parameter_13 (by decide) (fun c4 => ?_) (fun c4 => ?_)
    · have hf := oift c4 hf
      refine lv_iconst (v := (-1)) hx hb dX9_parameter_60 (by decide) ?_
      obtain ⟨rfl, rfl⟩ := oret hf
      exact zw_ireturn F hW hS dX9_parameter_61
    · have hf := oiff c4 hf
      refine zw_aload_n hx hb dX9_parameter_16 rfl (lv_at hl.1 0 rfl) ?_
      obtain ⟨v5, e5, hf⟩ := ob hf
      refine zw_gR hx hb hts inX9 hown hW (ci := 9) rfl (by decide) 11 (by decide) (hts _ wd_600) e5 (fun _ _ => rfl) dX9_parameter_17 ?_
      refine lv_iload_n hx hb dX9_parameter_20 rfl (lv_at hl.1 1 rfl) ?_
      obtain ⟨v6, e6, hf⟩ := ob hf
      refine zw_aI hx hb hW e6 dX9_parameter_21 ?_
      refine zw_aload_n hx hb dX9_parameter_22 rfl (lv_at hl.1 0 rfl) ?_
      obtain ⟨v7, e7, hf⟩ := ob hf
      refine zw_gR hx hb hts inX9 hown hW (ci := 9) rfl (by decide) 9 (by decide) (hts _ wd_598) e7 (fun _ _ => rfl) dX9_parameter_23 ?_
      refine lv_iload_n hx hb dX9_parameter_26 rfl (lv_at hl.1 1 rfl) ?_
      obtain ⟨v8, e8, hf⟩ := ob hf
      refine zw_aI hx hb hW e8 dX9_parameter_27 ?_
      refine lv_icmp_ge (tgt := 60) hx hb dX9_parameter_28 (by decide) (fun c9 => ?_) (fun c9 => ?_)
      · have hf := oift c9 hf
        refine lv_iconst (v := (-1)) hx hb dX9_parameter_60 (by decide) ?_
        obtain ⟨rfl, rfl⟩ := oret hf
        exact zw_ireturn F hW hS dX9_parameter_61
      · have hf := oiff c9 hf
        refine zw_aload_n hx hb dX9_parameter_31 rfl (lv_at hl.1 0 rfl) ?_
        obtain ⟨v10, e10, hf⟩ := ob hf
        refine zw_gR hx hb hts inX9 hown hW (ci := 9) rfl (by decide) 11 (by decide) (hts _ wd_600) e10 (fun _ _ => rfl) dX9_parameter_32 ?_
        refine lv_iload_n hx hb dX9_parameter_35 rfl (lv_at hl.1 1 rfl) ?_
        obtain ⟨v11, e11, hf⟩ := ob hf
        refine zw_aI hx hb hW e11 dX9_parameter_36 ?_
        refine lv_bipush (v := 8) hx hb dX9_parameter_37 (by decide) ?_
        refine lv_icmp_eq (tgt := 60) hx hb dX9_parameter_39 (by decide) (fun c12 => ?_) (fun c12 => ?_)
        · have hf := oift c12 hf
          refine lv_iconst (v := (-1)) hx hb dX9_parameter_60 (by decide) ?_
          obtain ⟨rfl, rfl⟩ := oret hf
          exact zw_ireturn F hW hS dX9_parameter_61
        · have hf := oiff c12 hf
          refine zw_aload_n hx hb dX9_parameter_42 rfl (lv_at hl.1 0 rfl) ?_
          obtain ⟨v13, e13, hf⟩ := ob hf
          refine zw_gR hx hb hts inX9 hown hW (ci := 9) rfl (by decide) 14 (by decide) (hts _ wd_603) e13 (fun _ _ => rfl) dX9_parameter_43 ?_
          refine lv_iload_n hx hb dX9_parameter_46 rfl (lv_at hl.1 1 rfl) ?_
          obtain ⟨v14, e14, hf⟩ := ob hf
          refine zw_aI hx hb hW e14 dX9_parameter_47 ?_
          refine lv_if_gt (tgt := 60) hx hb dX9_parameter_48 (by decide) (fun c15 => ?_) (fun c15 => ?_)
          · have hf := oift c15 hf
            refine lv_iconst (v := (-1)) hx hb dX9_parameter_60 (by decide) ?_
            obtain ⟨rfl, rfl⟩ := oret hf
            exact zw_ireturn F hW hS dX9_parameter_61
          · have hf := oiff c15 hf
            refine zw_aload_n hx hb dX9_parameter_51 rfl (lv_at hl.1 0 rfl) ?_
            obtain ⟨v16, e16, hf⟩ := ob hf
            refine zw_gR hx hb hts inX9 hown hW (ci := 9) rfl (by decide) 13 (by decide) (hts _ wd_602) e16 (fun _ _ => rfl) dX9_parameter_52 ?_
            refine lv_iload_n hx hb dX9_parameter_55 rfl (lv_at hl.1 1 rfl) ?_
            obtain ⟨v17, e17, hf⟩ := ob hf
            refine zw_aZ hx hb hW e17 dX9_parameter_56 ?_
            refine lv_if_eq (tgt := 62) hx hb dX9_parameter_57 (by decide) (fun c18 => ?_) (fun c18 => ?_)
            · have hf := oift c18 hf
              refine zw_aload_n hx hb dX9_parameter_62 rfl (lv_at hl.1 0 rfl) ?_
              obtain ⟨v19, e19, hf⟩ := ob hf
              refine zw_gR hx hb hts inX9 hown hW (ci := 9) rfl (by decide) 12 (by decide) (hts _ wd_601) e19 (fun _ _ => rfl) dX9_parameter_63 ?_
              refine lv_bipush (v := 8) hx hb dX9_parameter_66 (by decide) ?_
              refine lv_iload_n hx hb dX9_parameter_68 rfl (lv_at hl.1 1 rfl) ?_
              refine lv_imul hx hb dX9_parameter_69 ?_
              refine zw_aload_n hx hb dX9_parameter_70 rfl (lv_at hl.1 0 rfl) ?_
              obtain ⟨v20, e20, hf⟩ := ob hf
              refine zw_gR hx hb hts inX9 hown hW (ci := 9) rfl (by decide) 11 (by decide) (hts _ wd_600) e20 (fun _ _ => rfl) dX9_parameter_71 ?_
              refine lv_iload_n hx hb dX9_parameter_74 rfl (lv_at hl.1 1 rfl) ?_
              obtain ⟨v21, e21, hf⟩ := ob hf
              refine zw_aI hx hb hW e21 dX9_parameter_75 ?_
              refine lv_iadd hx hb dX9_parameter_76 ?_
              refine lv_iload_n hx hb dX9_parameter_77 rfl (lv_at hl.1 2 rfl) ?_
              obtain ⟨h22, e22, hf⟩ := ob hf
              refine zw_sI hx hb hW hS e22 dX9_parameter_78 (fun H locs hW hS => ?_)
              refine zw_aload_n hx hb dX9_parameter_79 rfl (lv_at hl.1 0 rfl) ?_
              obtain ⟨v23, e23, hf⟩ := ob hf
              refine zw_gR hx hb hts inX9 hown hW (ci := 9) rfl (by decide) 11 (by decide) (hts _ wd_600) e23 (fun _ _ => rfl) dX9_parameter_80 ?_
              refine lv_iload_n hx hb dX9_parameter_83 rfl (lv_at hl.1 1 rfl) ?_
              refine lv_dup2_11 hx hb dX9_parameter_84 rfl (va_rf_cat _) ?_
              obtain ⟨v24, e24, hf⟩ := ob hf
              refine zw_aI hx hb hW e24 dX9_parameter_85 ?_
              refine lv_iconst (v := 1) hx hb dX9_parameter_86 (by decide) ?_
              refine lv_iadd hx hb dX9_parameter_87 ?_
              obtain ⟨h25, e25, hf⟩ := ob hf
              refine zw_sI hx hb hW hS e25 dX9_parameter_88 (fun H locs hW hS => ?_)
              refine zw_aload_n hx hb dX9_parameter_89 rfl (lv_at hl.1 0 rfl) ?_
              obtain ⟨v26, e26, hf⟩ := ob hf
              refine zw_gR hx hb hts inX9 hown hW (ci := 9) rfl (by decide) 23 (by decide) (hts _ wd_612) e26 (fun _ _ => rfl) dX9_parameter_90 ?_
              refine lv_iload_n hx hb dX9_parameter_93 rfl (lv_at hl.1 1 rfl) ?_
              refine lv_iconst (v := 0) hx hb dX9_parameter_94 (by decide) ?_
              obtain ⟨h27, e27, hf⟩ := ob hf
              refine zw_sZ hx hb hW hS e27 dX9_parameter_95 (fun H locs hW hS => ?_)
              refine zw_aload_n hx hb dX9_parameter_96 rfl (lv_at hl.1 0 rfl) ?_
              obtain ⟨v28, e28, hf⟩ := ob hf
              refine zw_gR hx hb hts inX9 hown hW (ci := 9) rfl (by decide) 11 (by decide) (hts _ wd_600) e28 (fun _ _ => rfl) dX9_parameter_97 ?_
              refine lv_iload_n hx hb dX9_parameter_100 rfl (lv_at hl.1 1 rfl) ?_
              obtain ⟨v29, e29, hf⟩ := ob hf
              refine zw_aI hx hb hW e29 dX9_parameter_101 ?_
              obtain ⟨rfl, rfl⟩ := oret hf
              exact zw_ireturn F hW hS dX9_parameter_102
            · have hf := oiff c18 hf
              refine lv_iconst (v := (-1)) hx hb dX9_parameter_60 (by decide) ?_
              obtain ⟨rfl, rfl⟩ := oret hf
              exact zw_ireturn F hW hS dX9_parameter_61
set_option maxRecDepth 100000 in
set_option maxHeartbeats 4000000 in
theorem kX9_parameter (l : Launch) (D : va_G) (base : Nat) (a0 : Option Nat) (a1 : Int32) (a2 : Int32) (h : zH) {r : Int32} {h' : zH} (hf : fX9_parameter a0 a1 a2 h = some (r, h')) : zMet l D base yX9_parameter cX9_parameter 3 (some .int) rmX9_parameter h [va_rf a0, .int a1, .int a2] (some (.int r)) h' :=
  zMet.of (by decide +kernel) (fun v hv => by simp only [List.mem_cons, List.not_mem_nil, or_false] at hv; rcases hv with rfl | rfl | rfl <;> first | rfl | exact va_rf_cat _) (Nat.le_of_ble_eq_true rfl) (fun p e s m args below meth c ls F hi hl hW hS => kX9_parameter_w F a0 a1 a2 h hf s.heap [] ls hl hW hS)
set_option maxRecDepth 100000 in
set_option maxHeartbeats 4000000 in
theorem kX9_isLike_b86 (N : Nat) {r : Int32} {h' : zH} (k39 : Option Nat → Int32 → Int32 → Int32 → Int32 → zH → Option (Int32 × zH)) (hk39 : ∀ (l0 : Option Nat) (l1 : Int32) (l2 : Int32) (l3 : Int32) (l4 : Int32) (h : zH), k39 l0 l1 l2 l3 l4 h = some (r, h') → ∀ (H : Heap) (locs : List Loc) (ls : Array Slot), zhas ls 5 [(0, va_rf l0), (1, .int l1), (2, .int l2), (3, .int l3), (4, .int l4)] → z_W D base s h H → va_S (zA base) s.heap H locs → W p l e rmX9_isLike s m args below meth c H locs 0 0 (MQ below (zQ D base (some (.int r)) h') args s rmX9_isLike.cells rmX9_isLike.slots (zA base)) (F0 m 39 ls [])) (F : zF p s m args meth c cX9_isLike 5 RX9 (some .boolean)) (l0 : Option Nat) (l1 : Int32) (l2 : Int32) (l4 : Int32) (s0 : Int32) (h : zH) (hf : fX9_isLike_b86 N k39 l0 l1 l2 l4 s0 h = some (r, h')) (H : Heap) (locs : List Loc) (ls : Array Slot) (hl : zhas ls 5 [(0, va_rf l0), (1, .int l1), (2, .int l2), (4, .int l4)]) (hW : z_W D base s h H) (hS : va_S (zA base) s.heap H locs) : W p l e rmX9_isLike s m args below meth c H locs 0 0 (MQ below (zQ D base (some (.int r)) h') args s rmX9_isLike.cells rmX9_isLike.slots (zA base)) (F0 m 86 ls [.int s0]) := by
  obtain ⟨hx, hb, hml, hown, hts, hret, hlk, hZ⟩ := id F
  unfold fX9_isLike_b86 at hf
  refine zl_istore_n (lv' := [(3, .int s0), (0, va_rf l0), (1, .int l1), (2, .int l2), (4, .int l4)]) hx hb dX9_isLike_86 rfl hl (by decide) rfl (fun ls hl => ?_)
  refine zl_iinc (v := (l4 + 1)) (lv' := [(4, .int (l4 + 1)), (3, .int s0), (0, va_rf l0), (1, .int l1), (2, .int l2)]) hx hb dX9_isLike_87 hl (k := 4) rfl rfl (by decide) rfl (fun ls hl => ?_)
  refine lv_goto (tgt := 39) hx hb dX9_isLike_90 (by decide) ?_
  exact hk39 l0 l1 l2 s0 (l4 + 1) h hf H locs ls (z_sub hl [2, 3, 4, 1, 0] rfl) hW hS
set_option maxRecDepth 100000 in
set_option maxHeartbeats 4000000 in
theorem kX9_isLike_b39 (N : Nat) {r : Int32} {h' : zH} (F : zF p s m args meth c cX9_isLike 5 RX9 (some .boolean)) : ∀ (n : Nat) (l0 : Option Nat) (l1 : Int32) (l2 : Int32) (l3 : Int32) (l4 : Int32) (h : zH), fX9_isLike_b39 N n l0 l1 l2 l3 l4 h = some (r, h') → ∀ (H : Heap) (locs : List Loc) (ls : Array Slot), zhas ls 5 [(0, va_rf l0), (1, .int l1), (2, .int l2), (3, .int l3), (4, .int l4)] → z_W D base s h H → va_S (zA base) s.heap H locs → W p l e rmX9_isLike s m args below meth c H locs 0 0 (MQ below (zQ D base (some (.int r)) h') args s rmX9_isLike.cells rmX9_isLike.slots (zA base)) (F0 m 39 ls []) := by
  obtain ⟨hx, hb, hml, hown, hts, hret, hlk, hZ⟩ := id F
  intro n
  induction n with
  | zero =>
    intro l0 l1 l2 l3 l4 h hf
    rw [fX9_isLike_b39] at hf
    cases hf
  | succ n ih =>
    intro l0 l1 l2 l3 l4 h hf H locs ls hl hW hS
    rw [fX9_isLike_b39] at hf
    refine lv_iload hx hb dX9_isLike_39 (lv_at hl.1 4 rfl) ?_
    refine zw_aload_n hx hb dX9_isLike_41 rfl (lv_at hl.1 0 rfl) ?_
    obtain ⟨v1, e1, hf⟩ := ob hf
    refine zw_gR hx hb hts inX9 hown hW (ci := 9) rfl (by decide) 11 (by decide) (hts _ wd_600) e1 (fun _ _ => rfl) dX9_isLike_42 ?_
    refine lv_iload_n hx hb dX9_isLike_45 rfl (lv_at hl.1 1 rfl) ?_
    obtain ⟨v2, e2, hf⟩ := ob hf
    refine zw_aI hx hb hW e2 dX9_isLike_46 ?_
    refine lv_icmp_ge (tgt := 93) hx hb dX9_isLike_47 (by decide) (fun c3 => ?_) (fun c3 => ?_)
    · have hf := oift c3 hf
      refine lv_iload_n hx hb dX9_isLike_93 rfl (lv_at hl.1 3 rfl) ?_
      obtain ⟨hz, rfl, rfl⟩ := oretz hf
      exact zw_zreturn F hz hW hS dX9_isLike_94
    · have hf := oiff c3 hf
      refine lv_iload_n hx hb dX9_isLike_50 rfl (lv_at hl.1 3 rfl) ?_
      refine lv_if_eq (tgt := 93) hx hb dX9_isLike_51 (by decide) (fun c4 => ?_) (fun c4 => ?_)
      · have hf := oift c4 hf
        refine lv_iload_n hx hb dX9_isLike_93 rfl (lv_at hl.1 3 rfl) ?_
        obtain ⟨hz, rfl, rfl⟩ := oretz hf
        exact zw_zreturn F hz hW hS dX9_isLike_94
      · have hf := oiff c4 hf
        refine zw_aload_n hx hb dX9_isLike_54 rfl (lv_at hl.1 0 rfl) ?_
        obtain ⟨v5, e5, hf⟩ := ob hf
        refine zw_gR hx hb hts inX9 hown hW (ci := 9) rfl (by decide) 12 (by decide) (hts _ wd_601) e5 (fun _ _ => rfl) dX9_isLike_55 ?_
        refine lv_bipush (v := 8) hx hb dX9_isLike_58 (by decide) ?_
        refine lv_iload_n hx hb dX9_isLike_60 rfl (lv_at hl.1 1 rfl) ?_
        refine lv_imul hx hb dX9_isLike_61 ?_
        refine lv_iload hx hb dX9_isLike_62 (lv_at hl.1 4 rfl) ?_
        refine lv_iadd hx hb dX9_isLike_64 ?_
        obtain ⟨v6, e6, hf⟩ := ob hf
        refine zw_aI hx hb hW e6 dX9_isLike_65 ?_
        refine zw_aload_n hx hb dX9_isLike_66 rfl (lv_at hl.1 0 rfl) ?_
        obtain ⟨v7, e7, hf⟩ := ob hf
        refine zw_gR hx hb hts inX9 hown hW (ci := 9) rfl (by decide) 12 (by decide) (hts _ wd_601) e7 (fun _ _ => rfl) dX9_isLike_67 ?_
        refine lv_bipush (v := 8) hx hb dX9_isLike_70 (by decide) ?_
        refine lv_iload_n hx hb dX9_isLike_72 rfl (lv_at hl.1 2 rfl) ?_
        refine lv_imul hx hb dX9_isLike_73 ?_
        refine lv_iload hx hb dX9_isLike_74 (lv_at hl.1 4 rfl) ?_
        refine lv_iadd hx hb dX9_isLike_76 ?_
        obtain ⟨v8, e8, hf⟩ := ob hf
        refine zw_aI hx hb hW e8 dX9_isLike_77 ?_
        refine lv_icmp_ne (tgt := 85) hx hb dX9_isLike_78 (by decide) (fun c9 => ?_) (fun c9 => ?_)
        · have hf := oiff c9 hf
          refine lv_iconst (v := 0) hx hb dX9_isLike_85 (by decide) ?_
          exact kX9_isLike_b86 N (fX9_isLike_b39 N n) (fun l0 l1 l2 l3 l4 h hf H locs ls hl hW hS => ih l0 l1 l2 l3 l4 h hf H locs ls hl hW hS) F l0 l1 l2 l4 0 h hf H locs ls (z_sub hl [0, 1, 2, 4] rfl) hW hS
        · have hf := oift c9 hf
          refine lv_iconst (v := 1) hx hb dX9_isLike_81 (by decide) ?_
          refine lv_goto (tgt := 86) hx hb dX9_isLike_82 (by decide) ?_
          exact kX9_isLike_b86 N (fX9_isLike_b39 N n) (fun l0 l1 l2 l3 l4 h hf H locs ls hl hW hS => ih l0 l1 l2 l3 l4 h hf H locs ls hl hW hS) F l0 l1 l2 l4 1 h hf H locs ls (z_sub hl [0, 1, 2, 4] rfl) hW hS
set_option maxRecDepth 100000 in
set_option maxHeartbeats 4000000 in
theorem kX9_isLike_b35 (N : Nat) {r : Int32} {h' : zH} (F : zF p s m args meth c cX9_isLike 5 RX9 (some .boolean)) (l0 : Option Nat) (l1 : Int32) (l2 : Int32) (s0 : Int32) (h : zH) (hf : fX9_isLike_b35 N l0 l1 l2 s0 h = some (r, h')) (H : Heap) (locs : List Loc) (ls : Array Slot) (hl : zhas ls 5 [(0, va_rf l0), (1, .int l1), (2, .int l2)]) (hW : z_W D base s h H) (hS : va_S (zA base) s.heap H locs) : W p l e rmX9_isLike s m args below meth c H locs 0 0 (MQ below (zQ D base (some (.int r)) h') args s rmX9_isLike.cells rmX9_isLike.slots (zA base)) (F0 m 35 ls [.int s0]) := by
  obtain ⟨hx, hb, hml, hown, hts, hret, hlk, hZ⟩ := id F
  unfold fX9_isLike_b35 at hf
  refine zl_istore_n (lv' := [(3, .int s0), (0, va_rf l0), (1, .int l1), (2, .int l2)]) hx hb dX9_isLike_35 rfl hl (by decide) rfl (fun ls hl => ?_)
  refine lv_iconst (v := 1) hx hb dX9_isLike_36 (by decide) ?_
  refine zl_istore (lv' := [(4, .int 1), (3, .int s0), (0, va_rf l0), (1, .int l1), (2, .int l2)]) hx hb dX9_isLike_37 hl (by decide) rfl (fun ls hl => ?_)
  exact kX9_isLike_b39 N F N l0 l1 l2 s0 1 h hf H locs ls (z_sub hl [2, 3, 4, 1, 0] rfl) hW hS
set_option maxRecDepth 100000 in
set_option maxHeartbeats 4000000 in
theorem kX9_isLike_b34 (N : Nat) {r : Int32} {h' : zH} (F : zF p s m args meth c cX9_isLike 5 RX9 (some .boolean)) (l0 : Option Nat) (l1 : Int32) (l2 : Int32) (h : zH) (hf : fX9_isLike_b34 N l0 l1 l2 h = some (r, h')) (H : Heap) (locs : List Loc) (ls : Array Slot) (hl : zhas ls 5 [(0, va_rf l0), (1, .int l1), (2, .int l2)]) (hW : z_W D base s h H) (hS : va_S (zA base) s.heap H locs) : W p l e rmX9_isLike s m args below meth c H locs 0 0 (MQ below (zQ D base (some (.int r)) h') args s rmX9_isLike.cells rmX9_isLike.slots (zA base)) (F0 m 34 ls []) := by
  obtain ⟨hx, hb, hml, hown, hts, hret, hlk, hZ⟩ := id F
  unfold fX9_isLike_b34 at hf
  refine lv_iconst (v := 0) hx hb dX9_isLike_34 (by decide) ?_
  exact kX9_isLike_b35 N F l0 l1 l2 0 h hf H locs ls (z_sub hl [0, 1, 2] rfl) hW hS
set_option maxRecDepth 100000 in
set_option maxHeartbeats 4000000 in
theorem kX9_isLike_w (N : Nat) (F : zF p s m args meth c cX9_isLike 5 RX9 (some .boolean)) {r : Int32} {h' : zH} (a0 : Option Nat) (a1 : Int32) (a2 : Int32) (h : zH) (hf : fX9_isLike N a0 a1 a2 h = some (r, h')) (H : Heap) (locs : List Loc) (ls : Array Slot) (hl : zhas ls 5 [(0, va_rf a0), (1, .int a1), (2, .int a2)]) (hW : z_W D base s h H) (hS : va_S (zA base) s.heap H locs) : W p l e rmX9_isLike s m args below meth c H locs 0 0 (MQ below (zQ D base (some (.int r)) h') args s rmX9_isLike.cells rmX9_isLike.slots (zA base)) (F0 m 0 ls []) := by
  obtain ⟨hx, hb, hml, hown, hts, hret, hlk, hZ⟩ := id F
  unfold fX9_isLike at hf
  refine zw_aload_n hx hb dX9_isLike_0 rfl (lv_at hl.1 0 rfl) ?_
  obtain ⟨v1, e1, hf⟩ := ob hf
  refine zw_gR hx hb hts inX9 hown hW (ci := 9) rfl (by decide) 11 (by decide) (hts _ wd_600) e1 (fun _ _ => rfl) dX9_isLike_1 ?_
  refine lv_iload_n hx hb dX9_isLike_4 rfl (lv_at hl.1 1 rfl) ?_
  obtain ⟨v2, e2, hf⟩ := ob hf
  refine zw_aI hx hb hW e2 dX9_isLike_5 ?_
  refine zw_aload_n hx hb dX9_isLike_6 rfl (lv_at hl.1 0 rfl) ?_
  obtain ⟨v3, e3, hf⟩ := ob hf
  refine zw_gR hx hb hts inX9 hown hW (ci := 9) rfl (by decide) 11 (by decide) (hts _ wd_600) e3 (fun _ _ => rfl) dX9_isLike_7 ?_
  refine lv_iload_n hx hb dX9_isLike_10 rfl (lv_at hl.1 2 rfl) ?_
  obtain ⟨v4, e4, hf⟩ := ob hf
  refine zw_aI hx hb hW e4 dX9_isLike_11 ?_
  refine lv_icmp_ne (tgt := 34) hx hb dX9_isLike_12 (by decide) (fun c5 => ?_) (fun c5 => ?_)
  · have hf := oiff c5 hf
    exact kX9_isLike_b34 N F a0 a1 a2 h hf H locs ls (z_sub hl [0, 1, 2] rfl) hW hS
  · have hf := oift c5 hf
    refine zw_aload_n hx hb dX9_isLike_15 rfl (lv_at hl.1 0 rfl) ?_
    obtain ⟨v6, e6, hf⟩ := ob hf
    refine zw_gR hx hb hts inX9 hown hW (ci := 9) rfl (by decide) 8 (by decide) (hts _ wd_597) e6 (fun _ _ => rfl) dX9_isLike_16 ?_
    refine lv_iload_n hx hb dX9_isLike_19 rfl (lv_at hl.1 1 rfl) ?_
    obtain ⟨v7, e7, hf⟩ := ob hf
    refine zw_aI hx hb hW e7 dX9_isLike_20 ?_
    refine zw_aload_n hx hb dX9_isLike_21 rfl (lv_at hl.1 0 rfl) ?_
    obtain ⟨v8, e8, hf⟩ := ob hf
    refine zw_gR hx hb hts inX9 hown hW (ci := 9) rfl (by decide) 8 (by decide) (hts _ wd_597) e8 (fun _ _ => rfl) dX9_isLike_22 ?_
    refine lv_iload_n hx hb dX9_isLike_25 rfl (lv_at hl.1 2 rfl) ?_
    obtain ⟨v9, e9, hf⟩ := ob hf
    refine zw_aI hx hb hW e9 dX9_isLike_26 ?_
    refine lv_icmp_ne (tgt := 34) hx hb dX9_isLike_27 (by decide) (fun c10 => ?_) (fun c10 => ?_)
    · have hf := oiff c10 hf
      exact kX9_isLike_b34 N F a0 a1 a2 h hf H locs ls (z_sub hl [0, 1, 2] rfl) hW hS
    · have hf := oift c10 hf
      refine lv_iconst (v := 1) hx hb dX9_isLike_30 (by decide) ?_
      refine lv_goto (tgt := 35) hx hb dX9_isLike_31 (by decide) ?_
      exact kX9_isLike_b35 N F a0 a1 a2 1 h hf H locs ls (z_sub hl [0, 1, 2] rfl) hW hS
set_option maxRecDepth 100000 in
set_option maxHeartbeats 4000000 in
theorem kX9_isLike (l : Launch) (D : va_G) (base : Nat) (N : Nat) (a0 : Option Nat) (a1 : Int32) (a2 : Int32) (h : zH) {r : Int32} {h' : zH} (hf : fX9_isLike N a0 a1 a2 h = some (r, h')) : zMet l D base yX9_isLike cX9_isLike 5 (some .boolean) rmX9_isLike h [va_rf a0, .int a1, .int a2] (some (.int r)) h' :=
  zMet.of (by decide +kernel) (fun v hv => by simp only [List.mem_cons, List.not_mem_nil, or_false] at hv; rcases hv with rfl | rfl | rfl <;> first | rfl | exact va_rf_cat _) (Nat.le_of_ble_eq_true rfl) (fun p e s m args below meth c ls F hi hl hW hS => kX9_isLike_w N F a0 a1 a2 h hf s.heap [] ls hl hW hS)
set_option maxRecDepth 100000 in
set_option maxHeartbeats 4000000 in
theorem kX9_slot_b97 (N : Nat) {r : Int32} {h' : zH} (F : zF p s m args meth c cX9_slot 5 RX9 (some .boolean)) (l0 : Option Nat) (l1 : Int32) (l2 : Int32) (l3 : Int32) (h : zH) (hf : fX9_slot_b97 N l0 l1 l2 l3 h = some (r, h')) (H : Heap) (locs : List Loc) (ls : Array Slot) (hl : zhas ls 5 [(0, va_rf l0), (1, .int l1), (2, .int l2), (3, .int l3)]) (hW : z_W D base s h H) (hS : va_S (zA base) s.heap H locs) : W p l e rmX9_slot s m args below meth c H locs 0 0 (MQ below (zQ D base (some (.int r)) h') args s rmX9_slot.cells rmX9_slot.slots (zA base)) (F0 m 97 ls []) := by
  obtain ⟨hx, hb, hml, hown, hts, hret, hlk, hZ⟩ := id F
  unfold fX9_slot_b97 at hf
  refine zw_aload_n hx hb dX9_slot_97 rfl (lv_at hl.1 0 rfl) ?_
  obtain ⟨v1, e1, hf⟩ := ob hf
  refine zw_gR hx hb hts inX9 hown hW (ci := 9) rfl (by decide) 5 (by decide) (hts _ wd_594) e1 (fun _ _ => rfl) dX9_slot_98 ?_
  refine lv_bipush (v := 16) hx hb dX9_slot_101 (by decide) ?_
  refine lv_iload_n hx hb dX9_slot_103 rfl (lv_at hl.1 3 rfl) ?_
  refine lv_imul hx hb dX9_slot_104 ?_
  refine lv_iload_n hx hb dX9_slot_105 rfl (lv_at hl.1 2 rfl) ?_
  refine lv_iadd hx hb dX9_slot_106 ?_
  refine lv_iload_n hx hb dX9_slot_107 rfl (lv_at hl.1 1 rfl) ?_
  obtain ⟨h2, e2, hf⟩ := ob hf
  refine zw_sI hx hb hW hS e2 dX9_slot_108 (fun H locs hW hS => ?_)
  refine zw_aload_n hx hb dX9_slot_109 rfl (lv_at hl.1 0 rfl) ?_
  obtain ⟨v3, e3, hf⟩ := ob hf
  refine zw_gR hx hb hts inX9 hown hW (ci := 9) rfl (by decide) 13 (by decide) (hts _ wd_602) e3 (fun _ _ => rfl) dX9_slot_110 ?_
  refine lv_iload_n hx hb dX9_slot_113 rfl (lv_at hl.1 1 rfl) ?_
  refine lv_iconst (v := 1) hx hb dX9_slot_114 (by decide) ?_
  obtain ⟨h4, e4, hf⟩ := ob hf
  refine zw_sZ hx hb hW hS e4 dX9_slot_115 (fun H locs hW hS => ?_)
  refine lv_iconst (v := 1) hx hb dX9_slot_116 (by decide) ?_
  obtain ⟨rfl, rfl⟩ := oret hf
  exact zw_zreturn F (by decide) hW hS dX9_slot_117
set_option maxRecDepth 100000 in
set_option maxHeartbeats 4000000 in
theorem kX9_slot_b39 (N : Nat) {r : Int32} {h' : zH} (F : zF p s m args meth c cX9_slot 5 RX9 (some .boolean)) : ∀ (n : Nat) (l0 : Option Nat) (l1 : Int32) (l2 : Int32) (l3 : Int32) (l4 : Int32) (h : zH), fX9_slot_b39 N n l0 l1 l2 l3 l4 h = some (r, h') → ∀ (H : Heap) (locs : List Loc) (ls : Array Slot), zhas ls 5 [(0, va_rf l0), (1, .int l1), (2, .int l2), (3, .int l3), (4, .int l4)] → z_W D base s h H → va_S (zA base) s.heap H locs → W p l e rmX9_slot s m args below meth c H locs 0 0 (MQ below (zQ D base (some (.int r)) h') args s rmX9_slot.cells rmX9_slot.slots (zA base)) (F0 m 39 ls []) := by
  obtain ⟨hx, hb, hml, hown, hts, hret, hlk, hZ⟩ := id F
  intro n
  induction n with
  | zero =>
    intro l0 l1 l2 l3 l4 h hf
    rw [fX9_slot_b39] at hf
    cases hf
  | succ n ih =>
    intro l0 l1 l2 l3 l4 h hf H locs ls hl hW hS
    rw [fX9_slot_b39] at hf
    refine lv_iload hx hb dX9_slot_39 (lv_at hl.1 4 rfl) ?_
    refine zw_aload_n hx hb dX9_slot_41 rfl (lv_at hl.1 0 rfl) ?_
    obtain ⟨v1, e1, hf⟩ := ob hf
    refine zw_gI hx hb hts inX9 hown hW (ci := 9) rfl (by decide) 0 (by decide) (hts _ wd_589) e1 (fun _ _ => rfl) dX9_slot_42 ?_
    refine lv_icmp_ge (tgt := 67) hx hb dX9_slot_45 (by decide) (fun c2 => ?_) (fun c2 => ?_)
    · have hf := oift c2 hf
      refine zw_aload_n hx hb dX9_slot_67 rfl (lv_at hl.1 0 rfl) ?_
      obtain ⟨v3, e3, hf⟩ := ob hf
      refine zw_gR hx hb hts inX9 hown hW (ci := 9) rfl (by decide) 5 (by decide) (hts _ wd_594) e3 (fun _ _ => rfl) dX9_slot_68 ?_
      refine lv_bipush (v := 16) hx hb dX9_slot_71 (by decide) ?_
      refine lv_iload_n hx hb dX9_slot_73 rfl (lv_at hl.1 3 rfl) ?_
      refine lv_imul hx hb dX9_slot_74 ?_
      refine lv_iload_n hx hb dX9_slot_75 rfl (lv_at hl.1 2 rfl) ?_
      refine lv_iadd hx hb dX9_slot_76 ?_
      obtain ⟨v4, e4, hf⟩ := ob hf
      refine zw_aI hx hb hW e4 dX9_slot_77 ?_
      refine zl_istore (lv' := [(4, .int v4), (0, va_rf l0), (1, .int l1), (2, .int l2), (3, .int l3)]) hx hb dX9_slot_78 hl (by decide) rfl (fun ls hl => ?_)
      refine lv_iload hx hb dX9_slot_80 (lv_at hl.1 0 rfl) ?_
      refine lv_if_lt (tgt := 97) hx hb dX9_slot_82 (by decide) (fun c5 => ?_) (fun c5 => ?_)
      · have hf := oift c5 hf
        exact kX9_slot_b97 N F l0 l1 l2 l3 h hf H locs ls (z_sub hl [1, 2, 3, 4] rfl) hW hS
      · have hf := oiff c5 hf
        refine zw_aload_n hx hb dX9_slot_85 rfl (lv_at hl.1 1 rfl) ?_
        refine lv_iload_n hx hb dX9_slot_86 rfl (lv_at hl.1 2 rfl) ?_
        refine lv_iload hx hb dX9_slot_87 (lv_at hl.1 0 rfl) ?_
        obtain ⟨a906, j6, hf⟩ := ob hf
        obtain ⟨q6, e6, hf⟩ := ob hf
        refine zw_callV (rest := []) (n := 2) F (kX9_isLike (r := q6.1) (h' := q6.2) l D base N l0 l1 v4 h e6) 9 rfl (by decide) j6 wd_719 wd_721 ws_27 wd_6 wd_722 (by decide +kernel) ⟨by decide, by decide⟩ hW hS rfl hl.1.1 (by decide) rfl ⟨(by decide), (by decide)⟩ dX9_slot_89 (fun H locs hW hS => ?_)
        refine W.eq (g2 := F0 m 92 ls [.int q6.1]) rfl ?_
        refine lv_if_ne (tgt := 97) hx hb dX9_slot_92 (by decide) (fun c7 => ?_) (fun c7 => ?_)
        · have hf := oiff c7 hf
          exact kX9_slot_b97 N F l0 l1 l2 l3 q6.2 hf H locs ls (z_sub hl [1, 2, 3, 4] rfl) hW hS
        · have hf := oift c7 hf
          refine lv_iconst (v := 0) hx hb dX9_slot_95 (by decide) ?_
          obtain ⟨rfl, rfl⟩ := oret hf
          exact zw_zreturn F (by decide) hW hS dX9_slot_96
    · have hf := oiff c2 hf
      refine zw_aload_n hx hb dX9_slot_48 rfl (lv_at hl.1 0 rfl) ?_
      obtain ⟨v8, e8, hf⟩ := ob hf
      refine zw_gR hx hb hts inX9 hown hW (ci := 9) rfl (by decide) 1 (by decide) (hts _ wd_590) e8 (fun _ _ => rfl) dX9_slot_49 ?_
      refine lv_iload hx hb dX9_slot_52 (lv_at hl.1 4 rfl) ?_
      obtain ⟨v9, e9, hf⟩ := ob hf
      refine zw_aI hx hb hW e9 dX9_slot_54 ?_
      refine lv_iload_n hx hb dX9_slot_55 rfl (lv_at hl.1 3 rfl) ?_
      refine lv_icmp_ne (tgt := 61) hx hb dX9_slot_56 (by decide) (fun c10 => ?_) (fun c10 => ?_)
      · have hf := oiff c10 hf
        refine zl_iinc (v := (l4 + 1)) (lv' := [(4, .int (l4 + 1)), (0, va_rf l0), (1, .int l1), (2, .int l2), (3, .int l3)]) hx hb dX9_slot_61 hl (k := 4) rfl rfl (by decide) rfl (fun ls hl => ?_)
        refine lv_goto (tgt := 39) hx hb dX9_slot_64 (by decide) ?_
        exact ih l0 l1 l2 l3 (l4 + 1) h hf H locs ls (z_sub hl [1, 2, 3, 4, 0] rfl) hW hS
      · have hf := oift c10 hf
        refine lv_iconst (v := 0) hx hb dX9_slot_59 (by decide) ?_
        obtain ⟨rfl, rfl⟩ := oret hf
        exact zw_zreturn F (by decide) hW hS dX9_slot_60
set_option maxRecDepth 100000 in
set_option maxHeartbeats 4000000 in
theorem kX9_slot_w (N : Nat) (F : zF p s m args meth c cX9_slot 5 RX9 (some .boolean)) {r : Int32} {h' : zH} (a0 : Option Nat) (a1 : Int32) (a2 : Int32) (h : zH) (hf : fX9_slot N a0 a1 a2 h = some (r, h')) (H : Heap) (locs : List Loc) (ls : Array Slot) (hl : zhas ls 5 [(0, va_rf a0), (1, .int a1), (2, .int a2)]) (hW : z_W D base s h H) (hS : va_S (zA base) s.heap H locs) : W p l e rmX9_slot s m args below meth c H locs 0 0 (MQ below (zQ D base (some (.int r)) h') args s rmX9_slot.cells rmX9_slot.slots (zA base)) (F0 m 0 ls []) := by
  obtain ⟨hx, hb, hml, hown, hts, hret, hlk, hZ⟩ := id F
  unfold fX9_slot at hf
  refine zw_aload_n hx hb dX9_slot_0 rfl (lv_at hl.1 0 rfl) ?_
  refine lv_iload_n hx hb dX9_slot_1 rfl (lv_at hl.1 1 rfl) ?_
  obtain ⟨a901, j1, hf⟩ := ob hf
  obtain ⟨q1, e1, hf⟩ := ob hf
  refine zw_callV (rest := []) (n := 1) F (kX9_isMethod (r := q1.1) (h' := q1.2) l D base a0 a1 h e1) 9 rfl (by decide) j1 wd_711 wd_713 ws_26 wd_6 wd_714 (by decide +kernel) ⟨by decide, by decide⟩ hW hS rfl hl.1.1 (by decide) rfl ⟨(by decide), (by decide)⟩ dX9_slot_2 (fun H locs hW hS => ?_)
  refine W.eq (g2 := F0 m 5 ls [.int q1.1]) rfl ?_
  refine lv_if_eq (tgt := 27) hx hb dX9_slot_5 (by decide) (fun c2 => ?_) (fun c2 => ?_)
  · have hf := oift c2 hf
    refine lv_iconst (v := 0) hx hb dX9_slot_27 (by decide) ?_
    obtain ⟨rfl, rfl⟩ := oret hf
    exact zw_zreturn F (by decide) hW hS dX9_slot_28
  · have hf := oiff c2 hf
    refine lv_iload_n hx hb dX9_slot_8 rfl (lv_at hl.1 2 rfl) ?_
    refine lv_if_lt (tgt := 27) hx hb dX9_slot_9 (by decide) (fun c3 => ?_) (fun c3 => ?_)
    · have hf := oift c3 hf
      refine lv_iconst (v := 0) hx hb dX9_slot_27 (by decide) ?_
      obtain ⟨rfl, rfl⟩ := oret hf
      exact zw_zreturn F (by decide) hW hS dX9_slot_28
    · have hf := oiff c3 hf
      refine lv_iload_n hx hb dX9_slot_12 rfl (lv_at hl.1 2 rfl) ?_
      refine lv_bipush (v := 16) hx hb dX9_slot_13 (by decide) ?_
      refine lv_icmp_ge (tgt := 27) hx hb dX9_slot_15 (by decide) (fun c4 => ?_) (fun c4 => ?_)
      · have hf := oift c4 hf
        refine lv_iconst (v := 0) hx hb dX9_slot_27 (by decide) ?_
        obtain ⟨rfl, rfl⟩ := oret hf
        exact zw_zreturn F (by decide) hW hS dX9_slot_28
      · have hf := oiff c4 hf
        refine zw_aload_n hx hb dX9_slot_18 rfl (lv_at hl.1 0 rfl) ?_
        obtain ⟨v5, e5, hf⟩ := ob hf
        refine zw_gR hx hb hts inX9 hown hW (ci := 9) rfl (by decide) 7 (by decide) (hts _ wd_596) e5 (fun _ _ => rfl) dX9_slot_19 ?_
        refine lv_iload_n hx hb dX9_slot_22 rfl (lv_at hl.1 1 rfl) ?_
        obtain ⟨v6, e6, hf⟩ := ob hf
        refine zw_aI hx hb hW e6 dX9_slot_23 ?_
        refine lv_if_ge (tgt := 29) hx hb dX9_slot_24 (by decide) (fun c7 => ?_) (fun c7 => ?_)
        · have hf := oift c7 hf
          refine zw_aload_n hx hb dX9_slot_29 rfl (lv_at hl.1 0 rfl) ?_
          obtain ⟨v8, e8, hf⟩ := ob hf
          refine zw_gR hx hb hts inX9 hown hW (ci := 9) rfl (by decide) 7 (by decide) (hts _ wd_596) e8 (fun _ _ => rfl) dX9_slot_30 ?_
          refine lv_iload_n hx hb dX9_slot_33 rfl (lv_at hl.1 1 rfl) ?_
          obtain ⟨v9, e9, hf⟩ := ob hf
          refine zw_aI hx hb hW e9 dX9_slot_34 ?_
          refine zl_istore_n (lv' := [(3, .int v9), (0, va_rf a0), (1, .int a1), (2, .int a2)]) hx hb dX9_slot_35 rfl hl (by decide) rfl (fun ls hl => ?_)
          refine lv_iconst (v := 0) hx hb dX9_slot_36 (by decide) ?_
          refine zl_istore (lv' := [(4, .int 0), (3, .int v9), (0, va_rf a0), (1, .int a1), (2, .int a2)]) hx hb dX9_slot_37 hl (by decide) rfl (fun ls hl => ?_)
          exact kX9_slot_b39 N F N a0 a1 a2 v9 0 q1.2 hf H locs ls (z_sub hl [2, 3, 4, 1, 0] rfl) hW hS
        · have hf := oiff c7 hf
          refine lv_iconst (v := 0) hx hb dX9_slot_27 (by decide) ?_
          obtain ⟨rfl, rfl⟩ := oret hf
          exact zw_zreturn F (by decide) hW hS dX9_slot_28
set_option maxRecDepth 100000 in
set_option maxHeartbeats 4000000 in
theorem kX9_slot (l : Launch) (D : va_G) (base : Nat) (N : Nat) (a0 : Option Nat) (a1 : Int32) (a2 : Int32) (h : zH) {r : Int32} {h' : zH} (hf : fX9_slot N a0 a1 a2 h = some (r, h')) : zMet l D base yX9_slot cX9_slot 5 (some .boolean) rmX9_slot h [va_rf a0, .int a1, .int a2] (some (.int r)) h' :=
  zMet.of (by decide +kernel) (fun v hv => by simp only [List.mem_cons, List.not_mem_nil, or_false] at hv; rcases hv with rfl | rfl | rfl <;> first | rfl | exact va_rf_cat _) (Nat.le_of_ble_eq_true rfl) (fun p e s m args below meth c ls F hi hl hW hS => kX9_slot_w N F a0 a1 a2 h hf s.heap [] ls hl hW hS)
end
