section
variable {p : Program} {l : Launch} {e : Env} {s : State} {m : MethodId} {args : Array Value} {below : List Frame} {meth : Method} {c : Code} {D : va_G} {base : Nat}
set_option maxRecDepth 100000 in
set_option maxHeartbeats 4000000 in
theorem kX9_verify_b132 (N : Nat) {r : Int32} {h' : zH} (F : zF p s m args meth c cX9_verify 4 RX9 (some .int)) : ∀ (n : Nat) (l0 : Option Nat) (l1 : Int32) (l3 : Int32) (h : zH), fX9_verify_b132 N n l0 l1 l3 h = some (r, h') → ∀ (H : Heap) (locs : List Loc) (ls : Array Slot), zhas ls 4 [(0, va_rf l0), (1, .int l1), (3, .int l3)] → z_W D base s h H → va_S (zA base) s.heap H locs → W p l e rmX9_verify s m args below meth c H locs 0 0 (MQ below (zQ D base (some (.int r)) h') args s rmX9_verify.cells rmX9_verify.slots (zA base)) (F0 m 132 ls []) := by
  obtain ⟨hx, hb, hml, hown, hts, hret, hlk, hZ⟩ := id F
  intro n
  induction n with
  | zero =>
    intro l0 l1 l3 h hf
    rw [fX9_verify_b132] at hf
    cases hf
  | succ n ih =>
    intro l0 l1 l3 h hf H locs ls hl hW hS
    rw [fX9_verify_b132] at hf
    refine lv_iload_n hx hb dX9_verify_132 rfl (lv_at hl.1 2 rfl) ?_
    refine zw_aload_n hx hb dX9_verify_133 rfl (lv_at hl.1 0 rfl) ?_
    obtain ⟨v1, e1, hf⟩ := ob hf
    refine zw_gR hx hb hts inX9 hown hW (ci := 9) rfl (by decide) 14 (by decide) (hts _ wd_603) e1 (fun _ _ => rfl) dX9_verify_134 ?_
    refine lv_iload_n hx hb dX9_verify_137 rfl (lv_at hl.1 1 rfl) ?_
    obtain ⟨v2, e2, hf⟩ := ob hf
    refine zw_aI hx hb hW e2 dX9_verify_138 ?_
    refine lv_icmp_ge (tgt := 200) hx hb dX9_verify_139 (by decide) (fun c3 => ?_) (fun c3 => ?_)
    · have hf := oift c3 hf
      refine lv_iconst (v := 0) hx hb dX9_verify_200 (by decide) ?_
      obtain ⟨rfl, rfl⟩ := oret hf
      exact zw_ireturn F hW hS dX9_verify_201
    · have hf := oiff c3 hf
      refine zw_aload_n hx hb dX9_verify_142 rfl (lv_at hl.1 0 rfl) ?_
      obtain ⟨v4, e4, hf⟩ := ob hf
      refine zw_gR hx hb hts inX9 hown hW (ci := 9) rfl (by decide) 26 (by decide) (hts _ wd_615) e4 (fun _ _ => rfl) dX9_verify_143 ?_
      refine lv_iload_n hx hb dX9_verify_146 rfl (lv_at hl.1 2 rfl) ?_
      obtain ⟨v5, e5, hf⟩ := ob hf
      refine zw_aZ hx hb hW e5 dX9_verify_147 ?_
      refine lv_if_eq (tgt := 194) hx hb dX9_verify_148 (by decide) (fun c6 => ?_) (fun c6 => ?_)
      · have hf := oift c6 hf
        refine zl_iinc (v := (l3 + 1)) (lv' := [(3, .int (l3 + 1)), (0, va_rf l0), (1, .int l1)]) hx hb dX9_verify_194 hl (k := 2) rfl rfl (by decide) rfl (fun ls hl => ?_)
        refine lv_goto (tgt := 132) hx hb dX9_verify_197 (by decide) ?_
        exact ih l0 l1 (l3 + 1) h hf H locs ls (z_sub hl [1, 2, 0] rfl) hW hS
      · have hf := oiff c6 hf
        refine zw_aload_n hx hb dX9_verify_151 rfl (lv_at hl.1 0 rfl) ?_
        obtain ⟨v7, e7, hf⟩ := ob hf
        refine zw_gR hx hb hts inX9 hown hW (ci := 9) rfl (by decide) 26 (by decide) (hts _ wd_615) e7 (fun _ _ => rfl) dX9_verify_152 ?_
        refine lv_iload_n hx hb dX9_verify_155 rfl (lv_at hl.1 2 rfl) ?_
        refine lv_iconst (v := 0) hx hb dX9_verify_156 (by decide) ?_
        obtain ⟨h8, e8, hf⟩ := ob hf
        refine zw_sZ hx hb hW hS e8 dX9_verify_157 (fun H locs hW hS => ?_)
        refine zw_aload_n hx hb dX9_verify_158 rfl (lv_at hl.1 0 rfl) ?_
        refine lv_dup hx hb dX9_verify_159 (va_rf_cat _) ?_
        obtain ⟨v9, e9, hf⟩ := ob hf
        refine zw_gI hx hb hts inX9 hown hW (ci := 9) rfl (by decide) 27 (by decide) (hts _ wd_616) e9 (fun _ _ => rfl) dX9_verify_160 ?_
        refine lv_iconst (v := 1) hx hb dX9_verify_163 (by decide) ?_
        refine lv_iadd hx hb dX9_verify_164 ?_
        obtain ⟨h10, e10, hf⟩ := ob hf
        refine zw_pI hx hb hts inX9 tyX9 tyX9_ok nmX9 hown hW hS (ci := 9) rfl (by decide) 27 (by decide) (hts _ wd_616) (Or.inl rfl) (fun _ _ => rfl) rfl rfl e10 dX9_verify_165 (fun H locs hW hS => ?_)
        refine zw_aload_n hx hb dX9_verify_168 rfl (lv_at hl.1 0 rfl) ?_
        refine lv_iload_n hx hb dX9_verify_169 rfl (lv_at hl.1 2 rfl) ?_
        obtain ⟨h11, e11, hf⟩ := ob hf
        refine zw_pI hx hb hts inX9 tyX9 tyX9_ok nmX9 hown hW hS (ci := 9) rfl (by decide) 31 (by decide) (hts _ wd_620) (Or.inl rfl) (fun _ _ => rfl) rfl rfl e11 dX9_verify_170 (fun H locs hW hS => ?_)
        refine zw_aload_n hx hb dX9_verify_173 rfl (lv_at hl.1 0 rfl) ?_
        refine lv_iload_n hx hb dX9_verify_174 rfl (lv_at hl.1 1 rfl) ?_
        refine lv_iload_n hx hb dX9_verify_175 rfl (lv_at hl.1 2 rfl) ?_
        obtain ⟨a912, j12, hf⟩ := ob hf
        obtain ⟨q12, e12, hf⟩ := ob hf
        refine zw_callV (rest := []) (n := 2) F (kX9_step (r := q12.1) (h' := q12.2) l D base N l0 l1 l3 h11 e12) 9 rfl (by decide) j12 wd_757 wd_759 ws_32 wd_6 wd_760 (by decide +kernel) ⟨by decide, by decide⟩ hW hS rfl hl.1.1 (by decide) rfl ⟨(by decide), (by decide)⟩ dX9_verify_176 (fun H locs hW hS => ?_)
        refine W.eq (g2 := F0 m 179 ls [.int q12.1]) rfl ?_
        refine lv_if_ne (tgt := 189) hx hb dX9_verify_179 (by decide) (fun c13 => ?_) (fun c13 => ?_)
        · have hf := oiff c13 hf
          refine lv_iconst (v := 0) hx hb dX9_verify_189 (by decide) ?_
          refine zl_istore_n (lv' := [(3, .int 0), (0, va_rf l0), (1, .int l1)]) hx hb dX9_verify_190 rfl hl (by decide) rfl (fun ls hl => ?_)
          refine lv_goto (tgt := 132) hx hb dX9_verify_191 (by decide) ?_
          exact ih l0 l1 0 q12.2 hf H locs ls (z_sub hl [1, 2, 0] rfl) hW hS
        · have hf := oift c13 hf
          refine lv_iconst (v := 1) hx hb dX9_verify_182 (by decide) ?_
          refine zw_aload_n hx hb dX9_verify_183 rfl (lv_at hl.1 0 rfl) ?_
          obtain ⟨v14, e14, hf⟩ := ob hf
          refine zw_gI hx hb hts inX9 hown hW (ci := 9) rfl (by decide) 31 (by decide) (hts _ wd_620) e14 (fun _ _ => rfl) dX9_verify_184 ?_
          refine lv_iadd hx hb dX9_verify_187 ?_
          obtain ⟨rfl, rfl⟩ := oret hf
          exact zw_ireturn F hW hS dX9_verify_188
set_option maxRecDepth 100000 in
set_option maxHeartbeats 4000000 in
theorem kX9_verify_b116 (N : Nat) {r : Int32} {h' : zH} (k75 : Option Nat → Int32 → Int32 → zH → Option (Int32 × zH)) (hk75 : ∀ (l0 : Option Nat) (l1 : Int32) (l2 : Int32) (h : zH), k75 l0 l1 l2 h = some (r, h') → ∀ (H : Heap) (locs : List Loc) (ls : Array Slot), zhas ls 4 [(0, va_rf l0), (1, .int l1), (2, .int l2)] → z_W D base s h H → va_S (zA base) s.heap H locs → W p l e rmX9_verify s m args below meth c H locs 0 0 (MQ below (zQ D base (some (.int r)) h') args s rmX9_verify.cells rmX9_verify.slots (zA base)) (F0 m 75 ls [])) (F : zF p s m args meth c cX9_verify 4 RX9 (some .int)) (l0 : Option Nat) (l1 : Int32) (l2 : Int32) (s0 : Int32) (s1 : Int32) (s2 : Option Nat) (h : zH) (hf : fX9_verify_b116 N k75 l0 l1 l2 s0 s1 s2 h = some (r, h')) (H : Heap) (locs : List Loc) (ls : Array Slot) (hl : zhas ls 4 [(0, va_rf l0), (1, .int l1), (2, .int l2)]) (hW : z_W D base s h H) (hS : va_S (zA base) s.heap H locs) : W p l e rmX9_verify s m args below meth c H locs 0 0 (MQ below (zQ D base (some (.int r)) h') args s rmX9_verify.cells rmX9_verify.slots (zA base)) (F0 m 116 ls [.int s0, .int s1, va_rf s2]) := by
  obtain ⟨hx, hb, hml, hown, hts, hret, hlk, hZ⟩ := id F
  unfold fX9_verify_b116 at hf
  obtain ⟨h1, e1, hf⟩ := ob hf
  refine zw_sI hx hb hW hS e1 dX9_verify_116 (fun H locs hW hS => ?_)
  refine zl_iinc (v := (l2 + 1)) (lv' := [(2, .int (l2 + 1)), (0, va_rf l0), (1, .int l1)]) hx hb dX9_verify_117 hl (k := 2) rfl rfl (by decide) rfl (fun ls hl => ?_)
  refine lv_goto (tgt := 75) hx hb dX9_verify_120 (by decide) ?_
  exact hk75 l0 l1 (l2 + 1) h1 hf H locs ls (z_sub hl [1, 2, 0] rfl) hW hS
set_option maxRecDepth 100000 in
set_option maxHeartbeats 4000000 in
theorem kX9_verify_b75 (N : Nat) {r : Int32} {h' : zH} (F : zF p s m args meth c cX9_verify 4 RX9 (some .int)) : ∀ (n : Nat) (l0 : Option Nat) (l1 : Int32) (l2 : Int32) (h : zH), fX9_verify_b75 N n l0 l1 l2 h = some (r, h') → ∀ (H : Heap) (locs : List Loc) (ls : Array Slot), zhas ls 4 [(0, va_rf l0), (1, .int l1), (2, .int l2)] → z_W D base s h H → va_S (zA base) s.heap H locs → W p l e rmX9_verify s m args below meth c H locs 0 0 (MQ below (zQ D base (some (.int r)) h') args s rmX9_verify.cells rmX9_verify.slots (zA base)) (F0 m 75 ls []) := by
  obtain ⟨hx, hb, hml, hown, hts, hret, hlk, hZ⟩ := id F
  intro n
  induction n with
  | zero =>
    intro l0 l1 l2 h hf
    rw [fX9_verify_b75] at hf
    cases hf
  | succ n ih =>
    intro l0 l1 l2 h hf H locs ls hl hW hS
    rw [fX9_verify_b75] at hf
    refine lv_iload_n hx hb dX9_verify_75 rfl (lv_at hl.1 2 rfl) ?_
    refine zw_aload_n hx hb dX9_verify_76 rfl (lv_at hl.1 0 rfl) ?_
    obtain ⟨v1, e1, hf⟩ := ob hf
    refine zw_gR hx hb hts inX9 hown hW (ci := 9) rfl (by decide) 9 (by decide) (hts _ wd_598) e1 (fun _ _ => rfl) dX9_verify_77 ?_
    refine lv_iload_n hx hb dX9_verify_80 rfl (lv_at hl.1 1 rfl) ?_
    obtain ⟨v2, e2, hf⟩ := ob hf
    refine zw_aI hx hb hW e2 dX9_verify_81 ?_
    refine lv_icmp_ge (tgt := 123) hx hb dX9_verify_82 (by decide) (fun c3 => ?_) (fun c3 => ?_)
    · have hf := oift c3 hf
      refine zw_aload_n hx hb dX9_verify_123 rfl (lv_at hl.1 0 rfl) ?_
      refine lv_iload_n hx hb dX9_verify_124 rfl (lv_at hl.1 1 rfl) ?_
      refine lv_iconst (v := 0) hx hb dX9_verify_125 (by decide) ?_
      obtain ⟨a904, j4, hf⟩ := ob hf
      obtain ⟨q4, e4, hf⟩ := ob hf
      refine zw_callV (rest := []) (n := 2) F (kX9_come (r := q4.1) (h' := q4.2) l D base N l0 l1 0 h e4) 9 rfl (by decide) j4 wd_739 wd_741 ws_29 wd_6 wd_742 (by decide +kernel) ⟨by decide, by decide⟩ hW hS rfl hl.1.1 (by decide) rfl ⟨(by decide), (by decide)⟩ dX9_verify_126 (fun H locs hW hS => ?_)
      refine W.eq (g2 := F0 m 129 ls [.int q4.1]) rfl ?_
      refine zl_istore_n (lv' := [(2, .int q4.1), (0, va_rf l0), (1, .int l1)]) hx hb dX9_verify_129 rfl hl (by decide) rfl (fun ls hl => ?_)
      refine lv_iconst (v := 0) hx hb dX9_verify_130 (by decide) ?_
      refine zl_istore_n (lv' := [(3, .int 0), (2, .int q4.1), (0, va_rf l0), (1, .int l1)]) hx hb dX9_verify_131 rfl hl (by decide) rfl (fun ls hl => ?_)
      exact kX9_verify_b132 N F N l0 l1 0 q4.2 hf H locs ls (z_sub hl [2, 3, 0] rfl) hW hS
    · have hf := oiff c3 hf
      refine zw_aload_n hx hb dX9_verify_85 rfl (lv_at hl.1 0 rfl) ?_
      obtain ⟨v5, e5, hf⟩ := ob hf
      refine zw_gR hx hb hts inX9 hown hW (ci := 9) rfl (by decide) 28 (by decide) (hts _ wd_617) e5 (fun _ _ => rfl) dX9_verify_86 ?_
      refine lv_iload_n hx hb dX9_verify_89 rfl (lv_at hl.1 2 rfl) ?_
      refine lv_iload_n hx hb dX9_verify_90 rfl (lv_at hl.1 2 rfl) ?_
      refine zw_aload_n hx hb dX9_verify_91 rfl (lv_at hl.1 0 rfl) ?_
      obtain ⟨v6, e6, hf⟩ := ob hf
      refine zw_gR hx hb hts inX9 hown hW (ci := 9) rfl (by decide) 11 (by decide) (hts _ wd_600) e6 (fun _ _ => rfl) dX9_verify_92 ?_
      refine lv_iload_n hx hb dX9_verify_95 rfl (lv_at hl.1 1 rfl) ?_
      obtain ⟨v7, e7, hf⟩ := ob hf
      refine zw_aI hx hb hW e7 dX9_verify_96 ?_
      refine lv_icmp_ge (tgt := 114) hx hb dX9_verify_97 (by decide) (fun c8 => ?_) (fun c8 => ?_)
      · have hf := oift c8 hf
        refine lv_bipush (v := 99) hx hb dX9_verify_114 (by decide) ?_
        exact kX9_verify_b116 N (fX9_verify_b75 N n) (fun l0 l1 l2 h hf H locs ls hl hW hS => ih l0 l1 l2 h hf H locs ls hl hW hS) F l0 l1 l2 99 l2 v5 h hf H locs ls (z_sub hl [0, 1, 2] rfl) hW hS
      · have hf := oiff c8 hf
        refine zw_aload_n hx hb dX9_verify_100 rfl (lv_at hl.1 0 rfl) ?_
        obtain ⟨v9, e9, hf⟩ := ob hf
        refine zw_gR hx hb hts inX9 hown hW (ci := 9) rfl (by decide) 12 (by decide) (hts _ wd_601) e9 (fun _ _ => rfl) dX9_verify_101 ?_
        refine lv_bipush (v := 8) hx hb dX9_verify_104 (by decide) ?_
        refine lv_iload_n hx hb dX9_verify_106 rfl (lv_at hl.1 1 rfl) ?_
        refine lv_imul hx hb dX9_verify_107 ?_
        refine lv_iload_n hx hb dX9_verify_108 rfl (lv_at hl.1 2 rfl) ?_
        refine lv_iadd hx hb dX9_verify_109 ?_
        obtain ⟨v10, e10, hf⟩ := ob hf
        refine zw_aI hx hb hW e10 dX9_verify_110 ?_
        refine lv_goto (tgt := 116) hx hb dX9_verify_111 (by decide) ?_
        exact kX9_verify_b116 N (fX9_verify_b75 N n) (fun l0 l1 l2 h hf H locs ls hl hW hS => ih l0 l1 l2 h hf H locs ls hl hW hS) F l0 l1 l2 v10 l2 v5 h hf H locs ls (z_sub hl [0, 1, 2] rfl) hW hS
set_option maxRecDepth 100000 in
set_option maxHeartbeats 4000000 in
theorem kX9_verify_b24 (N : Nat) {r : Int32} {h' : zH} (F : zF p s m args meth c cX9_verify 4 RX9 (some .int)) : ∀ (n : Nat) (l0 : Option Nat) (l1 : Int32) (l2 : Int32) (h : zH), fX9_verify_b24 N n l0 l1 l2 h = some (r, h') → ∀ (H : Heap) (locs : List Loc) (ls : Array Slot), zhas ls 4 [(0, va_rf l0), (1, .int l1), (2, .int l2)] → z_W D base s h H → va_S (zA base) s.heap H locs → W p l e rmX9_verify s m args below meth c H locs 0 0 (MQ below (zQ D base (some (.int r)) h') args s rmX9_verify.cells rmX9_verify.slots (zA base)) (F0 m 24 ls []) := by
  obtain ⟨hx, hb, hml, hown, hts, hret, hlk, hZ⟩ := id F
  intro n
  induction n with
  | zero =>
    intro l0 l1 l2 h hf
    rw [fX9_verify_b24] at hf
    cases hf
  | succ n ih =>
    intro l0 l1 l2 h hf H locs ls hl hW hS
    rw [fX9_verify_b24] at hf
    refine lv_iload_n hx hb dX9_verify_24 rfl (lv_at hl.1 2 rfl) ?_
    refine lv_sipush (v := 200) hx hb dX9_verify_25 (by decide) ?_
    refine lv_icmp_ge (tgt := 57) hx hb dX9_verify_28 (by decide) (fun c1 => ?_) (fun c1 => ?_)
    · have hf := oift c1 hf
      refine zw_aload_n hx hb dX9_verify_57 rfl (lv_at hl.1 0 rfl) ?_
      obtain ⟨v2, e2, hf⟩ := ob hf
      refine zw_gR hx hb hts inX9 hown hW (ci := 9) rfl (by decide) 14 (by decide) (hts _ wd_603) e2 (fun _ _ => rfl) dX9_verify_58 ?_
      refine lv_iload_n hx hb dX9_verify_61 rfl (lv_at hl.1 1 rfl) ?_
      obtain ⟨v3, e3, hf⟩ := ob hf
      refine zw_aI hx hb hW e3 dX9_verify_62 ?_
      refine lv_if_ne (tgt := 68) hx hb dX9_verify_63 (by decide) (fun c4 => ?_) (fun c4 => ?_)
      · have hf := oiff c4 hf
        refine zw_aload_n hx hb dX9_verify_68 rfl (lv_at hl.1 0 rfl) ?_
        refine lv_iconst (v := 0) hx hb dX9_verify_69 (by decide) ?_
        obtain ⟨h5, e5, hf⟩ := ob hf
        refine zw_pI hx hb hts inX9 tyX9 tyX9_ok nmX9 hown hW hS (ci := 9) rfl (by decide) 29 (by decide) (hts _ wd_618) (Or.inl rfl) (fun _ _ => rfl) rfl rfl e5 dX9_verify_70 (fun H locs hW hS => ?_)
        refine lv_iconst (v := 0) hx hb dX9_verify_73 (by decide) ?_
        refine zl_istore_n (lv' := [(2, .int 0), (0, va_rf l0), (1, .int l1)]) hx hb dX9_verify_74 rfl hl (by decide) rfl (fun ls hl => ?_)
        exact kX9_verify_b75 N F N l0 l1 0 h5 hf H locs ls (z_sub hl [1, 2, 0] rfl) hW hS
      · have hf := oift c4 hf
        refine lv_iconst (v := 1) hx hb dX9_verify_66 (by decide) ?_
        obtain ⟨rfl, rfl⟩ := oret hf
        exact zw_ireturn F hW hS dX9_verify_67
    · have hf := oiff c1 hf
      refine zw_aload_n hx hb dX9_verify_31 rfl (lv_at hl.1 0 rfl) ?_
      obtain ⟨v6, e6, hf⟩ := ob hf
      refine zw_gR hx hb hts inX9 hown hW (ci := 9) rfl (by decide) 24 (by decide) (hts _ wd_613) e6 (fun _ _ => rfl) dX9_verify_32 ?_
      refine lv_sipush (v := 200) hx hb dX9_verify_35 (by decide) ?_
      refine lv_iload_n hx hb dX9_verify_38 rfl (lv_at hl.1 1 rfl) ?_
      refine lv_imul hx hb dX9_verify_39 ?_
      refine lv_iload_n hx hb dX9_verify_40 rfl (lv_at hl.1 2 rfl) ?_
      refine lv_iadd hx hb dX9_verify_41 ?_
      refine lv_iconst (v := (-1)) hx hb dX9_verify_42 (by decide) ?_
      obtain ⟨h7, e7, hf⟩ := ob hf
      refine zw_sI hx hb hW hS e7 dX9_verify_43 (fun H locs hW hS => ?_)
      refine zw_aload_n hx hb dX9_verify_44 rfl (lv_at hl.1 0 rfl) ?_
      obtain ⟨v8, e8, hf⟩ := ob hf
      refine zw_gR hx hb hts inX9 hown hW (ci := 9) rfl (by decide) 26 (by decide) (hts _ wd_615) e8 (fun _ _ => rfl) dX9_verify_45 ?_
      refine lv_iload_n hx hb dX9_verify_48 rfl (lv_at hl.1 2 rfl) ?_
      refine lv_iconst (v := 0) hx hb dX9_verify_49 (by decide) ?_
      obtain ⟨h9, e9, hf⟩ := ob hf
      refine zw_sZ hx hb hW hS e9 dX9_verify_50 (fun H locs hW hS => ?_)
      refine zl_iinc (v := (l2 + 1)) (lv' := [(2, .int (l2 + 1)), (0, va_rf l0), (1, .int l1)]) hx hb dX9_verify_51 hl (k := 2) rfl rfl (by decide) rfl (fun ls hl => ?_)
      refine lv_goto (tgt := 24) hx hb dX9_verify_54 (by decide) ?_
      exact ih l0 l1 (l2 + 1) h9 hf H locs ls (z_sub hl [1, 2, 0] rfl) hW hS
set_option maxRecDepth 100000 in
set_option maxHeartbeats 4000000 in
theorem kX9_verify_w (N : Nat) (F : zF p s m args meth c cX9_verify 4 RX9 (some .int)) {r : Int32} {h' : zH} (a0 : Option Nat) (a1 : Int32) (h : zH) (hf : fX9_verify N a0 a1 h = some (r, h')) (H : Heap) (locs : List Loc) (ls : Array Slot) (hl : zhas ls 4 [(0, va_rf a0), (1, .int a1)]) (hW : z_W D base s h H) (hS : va_S (zA base) s.heap H locs) : W p l e rmX9_verify s m args below meth c H locs 0 0 (MQ below (zQ D base (some (.int r)) h') args s rmX9_verify.cells rmX9_verify.slots (zA base)) (F0 m 0 ls []) := by
  obtain ⟨hx, hb, hml, hown, hts, hret, hlk, hZ⟩ := id F
  unfold fX9_verify at hf
  refine zw_aload_n hx hb dX9_verify_0 rfl (lv_at hl.1 0 rfl) ?_
  refine lv_iload_n hx hb dX9_verify_1 rfl (lv_at hl.1 1 rfl) ?_
  obtain ⟨a901, j1, hf⟩ := ob hf
  obtain ⟨q1, e1, hf⟩ := ob hf
  refine zw_callV (rest := []) (n := 1) F (kX9_isMethod (r := q1.1) (h' := q1.2) l D base a0 a1 h e1) 9 rfl (by decide) j1 wd_711 wd_713 ws_26 wd_6 wd_714 (by decide +kernel) ⟨by decide, by decide⟩ hW hS rfl hl.1.1 (by decide) rfl ⟨(by decide), (by decide)⟩ dX9_verify_2 (fun H locs hW hS => ?_)
  refine W.eq (g2 := F0 m 5 ls [.int q1.1]) rfl ?_
  refine lv_if_ne (tgt := 10) hx hb dX9_verify_5 (by decide) (fun c2 => ?_) (fun c2 => ?_)
  · have hf := oiff c2 hf
    refine zw_aload_n hx hb dX9_verify_10 rfl (lv_at hl.1 0 rfl) ?_
    obtain ⟨v3, e3, hf⟩ := ob hf
    refine zw_gR hx hb hts inX9 hown hW (ci := 9) rfl (by decide) 23 (by decide) (hts _ wd_612) e3 (fun _ _ => rfl) dX9_verify_11 ?_
    refine lv_iload_n hx hb dX9_verify_14 rfl (lv_at hl.1 1 rfl) ?_
    refine lv_iconst (v := 1) hx hb dX9_verify_15 (by decide) ?_
    obtain ⟨h4, e4, hf⟩ := ob hf
    refine zw_sZ hx hb hW hS e4 dX9_verify_16 (fun H locs hW hS => ?_)
    refine zw_aload_n hx hb dX9_verify_17 rfl (lv_at hl.1 0 rfl) ?_
    refine lv_iconst (v := 0) hx hb dX9_verify_18 (by decide) ?_
    obtain ⟨h5, e5, hf⟩ := ob hf
    refine zw_pI hx hb hts inX9 tyX9 tyX9_ok nmX9 hown hW hS (ci := 9) rfl (by decide) 27 (by decide) (hts _ wd_616) (Or.inl rfl) (fun _ _ => rfl) rfl rfl e5 dX9_verify_19 (fun H locs hW hS => ?_)
    refine lv_iconst (v := 0) hx hb dX9_verify_22 (by decide) ?_
    refine zl_istore_n (lv' := [(2, .int 0), (0, va_rf a0), (1, .int a1)]) hx hb dX9_verify_23 rfl hl (by decide) rfl (fun ls hl => ?_)
    exact kX9_verify_b24 N F N a0 a1 0 h5 hf H locs ls (z_sub hl [1, 2, 0] rfl) hW hS
  · have hf := oift c2 hf
    refine lv_iconst (v := (-1)) hx hb dX9_verify_8 (by decide) ?_
    obtain ⟨rfl, rfl⟩ := oret hf
    exact zw_ireturn F hW hS dX9_verify_9
set_option maxRecDepth 100000 in
set_option maxHeartbeats 4000000 in
theorem kX9_verify (l : Launch) (D : va_G) (base : Nat) (N : Nat) (a0 : Option Nat) (a1 : Int32) (h : zH) {r : Int32} {h' : zH} (hf : fX9_verify N a0 a1 h = some (r, h')) : zMet l D base yX9_verify cX9_verify 4 (some .int) rmX9_verify h [va_rf a0, .int a1] (some (.int r)) h' :=
  zMet.of (by decide +kernel) (fun v hv => by simp only [List.mem_cons, List.not_mem_nil, or_false] at hv; rcases hv with rfl | rfl <;> first | rfl | exact va_rf_cat _) (Nat.le_of_ble_eq_true rfl) (fun p e s m args below meth c ls F hi hl hW hS => kX9_verify_w N F a0 a1 h hf s.heap [] ls hl hW hS)
set_option maxRecDepth 100000 in
set_option maxHeartbeats 4000000 in
theorem kX9_stands_w (F : zF p s m args meth c cX9_stands 6 RX9 (some .int)) {r : Int32} {h' : zH} (a0 : Option Nat) (a1 : Int32) (a2 : Int32) (a3 : Int32) (a4 : Int32) (h : zH) (hf : fX9_stands a0 a1 a2 a3 a4 h = some (r, h')) (H : Heap) (locs : List Loc) (ls : Array Slot) (hl : zhas ls 6 [(0, va_rf a0), (1, .int a1), (2, .int a2), (3, .int a3), (4, .int a4)]) (hW : z_W D base s h H) (hS : va_S (zA base) s.heap H locs) : W p l e rmX9_stands s m args below meth c H locs 0 0 (MQ below (zQ D base (some (.int r)) h') args s rmX9_stands.cells rmX9_stands.slots (zA base)) (F0 m 0 ls []) := by
  obtain ⟨hx, hb, hml, hown, hts, hret, hlk, hZ⟩ := id F
  unfold fX9_stands at hf
  refine lv_sipush (v := 200) hx hb dX9_stands_0 (by decide) ?_
  refine lv_iload_n hx hb dX9_stands_3 rfl (lv_at hl.1 1 rfl) ?_
  refine lv_imul hx hb dX9_stands_4 ?_
  refine lv_iload_n hx hb dX9_stands_5 rfl (lv_at hl.1 2 rfl) ?_
  refine lv_iadd hx hb dX9_stands_6 ?_
  refine zl_istore (lv' := [(5, .int ((200 * a1) + a2)), (0, va_rf a0), (1, .int a1), (2, .int a2), (3, .int a3), (4, .int a4)]) hx hb dX9_stands_7 hl (by decide) rfl (fun ls hl => ?_)
  refine zw_aload_n hx hb dX9_stands_9 rfl (lv_at hl.1 1 rfl) ?_
  refine lv_iload_n hx hb dX9_stands_10 rfl (lv_at hl.1 2 rfl) ?_
  obtain ⟨a901, j1, hf⟩ := ob hf
  obtain ⟨q1, e1, hf⟩ := ob hf
  refine zw_callV (rest := []) (n := 1) F (kX9_isMethod (r := q1.1) (h' := q1.2) l D base a0 a1 h e1) 9 rfl (by decide) j1 wd_711 wd_713 ws_26 wd_6 wd_714 (by decide +kernel) ⟨by decide, by decide⟩ hW hS rfl hl.1.1 (by decide) rfl ⟨(by decide), (by decide)⟩ dX9_stands_11 (fun H locs hW hS => ?_)
  refine W.eq (g2 := F0 m 14 ls [.int q1.1]) rfl ?_
  refine lv_if_eq (tgt := 50) hx hb dX9_stands_14 (by decide) (fun c2 => ?_) (fun c2 => ?_)
  · have hf := oift c2 hf
    refine lv_iconst (v := (-1)) hx hb dX9_stands_50 (by decide) ?_
    obtain ⟨rfl, rfl⟩ := oret hf
    exact zw_ireturn F hW hS dX9_stands_51
  · have hf := oiff c2 hf
    refine zw_aload_n hx hb dX9_stands_17 rfl (lv_at hl.1 1 rfl) ?_
    obtain ⟨v3, e3, hf⟩ := ob hf
    refine zw_gR hx hb hts inX9 hown hW (ci := 9) rfl (by decide) 23 (by decide) (hts _ wd_612) e3 (fun _ _ => rfl) dX9_stands_18 ?_
    refine lv_iload_n hx hb dX9_stands_21 rfl (lv_at hl.1 2 rfl) ?_
    obtain ⟨v4, e4, hf⟩ := ob hf
    refine zw_aZ hx hb hW e4 dX9_stands_22 ?_
    refine lv_if_eq (tgt := 50) hx hb dX9_stands_23 (by decide) (fun c5 => ?_) (fun c5 => ?_)
    · have hf := oift c5 hf
      refine lv_iconst (v := (-1)) hx hb dX9_stands_50 (by decide) ?_
      obtain ⟨rfl, rfl⟩ := oret hf
      exact zw_ireturn F hW hS dX9_stands_51
    · have hf := oiff c5 hf
      refine lv_iload_n hx hb dX9_stands_26 rfl (lv_at hl.1 3 rfl) ?_
      refine lv_if_lt (tgt := 50) hx hb dX9_stands_27 (by decide) (fun c6 => ?_) (fun c6 => ?_)
      · have hf := oift c6 hf
        refine lv_iconst (v := (-1)) hx hb dX9_stands_50 (by decide) ?_
        obtain ⟨rfl, rfl⟩ := oret hf
        exact zw_ireturn F hW hS dX9_stands_51
      · have hf := oiff c6 hf
        refine lv_iload_n hx hb dX9_stands_30 rfl (lv_at hl.1 3 rfl) ?_
        refine zw_aload_n hx hb dX9_stands_31 rfl (lv_at hl.1 1 rfl) ?_
        obtain ⟨v7, e7, hf⟩ := ob hf
        refine zw_gR hx hb hts inX9 hown hW (ci := 9) rfl (by decide) 14 (by decide) (hts _ wd_603) e7 (fun _ _ => rfl) dX9_stands_32 ?_
        refine lv_iload_n hx hb dX9_stands_35 rfl (lv_at hl.1 2 rfl) ?_
        obtain ⟨v8, e8, hf⟩ := ob hf
        refine zw_aI hx hb hW e8 dX9_stands_36 ?_
        refine lv_icmp_ge (tgt := 50) hx hb dX9_stands_37 (by decide) (fun c9 => ?_) (fun c9 => ?_)
        · have hf := oift c9 hf
          refine lv_iconst (v := (-1)) hx hb dX9_stands_50 (by decide) ?_
          obtain ⟨rfl, rfl⟩ := oret hf
          exact zw_ireturn F hW hS dX9_stands_51
        · have hf := oiff c9 hf
          refine zw_aload_n hx hb dX9_stands_40 rfl (lv_at hl.1 1 rfl) ?_
          obtain ⟨v10, e10, hf⟩ := ob hf
          refine zw_gR hx hb hts inX9 hown hW (ci := 9) rfl (by decide) 24 (by decide) (hts _ wd_613) e10 (fun _ _ => rfl) dX9_stands_41 ?_
          refine lv_iload hx hb dX9_stands_44 (lv_at hl.1 0 rfl) ?_
          obtain ⟨v11, e11, hf⟩ := ob hf
          refine zw_aI hx hb hW e11 dX9_stands_46 ?_
          refine lv_if_ge (tgt := 52) hx hb dX9_stands_47 (by decide) (fun c12 => ?_) (fun c12 => ?_)
          · have hf := oift c12 hf
            refine lv_iload_n hx hb dX9_stands_52 rfl (lv_at hl.1 4 rfl) ?_
            refine lv_if_ne (tgt := 64) hx hb dX9_stands_53 (by decide) (fun c13 => ?_) (fun c13 => ?_)
            · have hf := oiff c13 hf
              refine lv_iload_n hx hb dX9_stands_64 rfl (lv_at hl.1 4 rfl) ?_
              refine lv_iconst (v := 1) hx hb dX9_stands_65 (by decide) ?_
              refine lv_icmp_ne (tgt := 103) hx hb dX9_stands_66 (by decide) (fun c14 => ?_) (fun c14 => ?_)
              · have hf := oiff c14 hf
                refine lv_iload_n hx hb dX9_stands_103 rfl (lv_at hl.1 4 rfl) ?_
                refine lv_iconst (v := 2) hx hb dX9_stands_104 (by decide) ?_
                refine lv_icmp_ne (tgt := 148) hx hb dX9_stands_105 (by decide) (fun c15 => ?_) (fun c15 => ?_)
                · have hf := oiff c15 hf
                  refine lv_iconst (v := (-1)) hx hb dX9_stands_148 (by decide) ?_
                  obtain ⟨rfl, rfl⟩ := oret hf
                  exact zw_ireturn F hW hS dX9_stands_149
                · have hf := oift c15 hf
                  refine lv_iload hx hb dX9_stands_108 (lv_at hl.1 5 rfl) ?_
                  refine lv_if_lt (tgt := 148) hx hb dX9_stands_110 (by decide) (fun c16 => ?_) (fun c16 => ?_)
                  · have hf := oift c16 hf
                    refine lv_iconst (v := (-1)) hx hb dX9_stands_148 (by decide) ?_
                    obtain ⟨rfl, rfl⟩ := oret hf
                    exact zw_ireturn F hW hS dX9_stands_149
                  · have hf := oiff c16 hf
                    refine lv_iload hx hb dX9_stands_113 (lv_at hl.1 5 rfl) ?_
                    refine zw_aload_n hx hb dX9_stands_115 rfl (lv_at hl.1 1 rfl) ?_
                    obtain ⟨v17, e17, hf⟩ := ob hf
                    refine zw_gR hx hb hts inX9 hown hW (ci := 9) rfl (by decide) 24 (by decide) (hts _ wd_613) e17 (fun _ _ => rfl) dX9_stands_116 ?_
                    refine lv_iload hx hb dX9_stands_119 (lv_at hl.1 0 rfl) ?_
                    obtain ⟨v18, e18, hf⟩ := ob hf
                    refine zw_aI hx hb hW e18 dX9_stands_121 ?_
                    refine lv_icmp_ge (tgt := 148) hx hb dX9_stands_122 (by decide) (fun c19 => ?_) (fun c19 => ?_)
                    · have hf := oift c19 hf
                      refine lv_iconst (v := (-1)) hx hb dX9_stands_148 (by decide) ?_
                      obtain ⟨rfl, rfl⟩ := oret hf
                      exact zw_ireturn F hW hS dX9_stands_149
                    · have hf := oiff c19 hf
                      refine zw_aload_n hx hb dX9_stands_125 rfl (lv_at hl.1 1 rfl) ?_
                      obtain ⟨v20, e20, hf⟩ := ob hf
                      refine zw_gR hx hb hts inX9 hown hW (ci := 9) rfl (by decide) 25 (by decide) (hts _ wd_614) e20 (fun _ _ => rfl) dX9_stands_126 ?_
                      refine lv_bipush (v := 12) hx hb dX9_stands_129 (by decide) ?_
                      refine lv_iload hx hb dX9_stands_131 (lv_at hl.1 0 rfl) ?_
                      refine lv_imul hx hb dX9_stands_133 ?_
                      refine zw_aload_n hx hb dX9_stands_134 rfl (lv_at hl.1 1 rfl) ?_
                      obtain ⟨v21, e21, hf⟩ := ob hf
                      refine zw_gR hx hb hts inX9 hown hW (ci := 9) rfl (by decide) 9 (by decide) (hts _ wd_598) e21 (fun _ _ => rfl) dX9_stands_135 ?_
                      refine lv_iload_n hx hb dX9_stands_138 rfl (lv_at hl.1 2 rfl) ?_
                      obtain ⟨v22, e22, hf⟩ := ob hf
                      refine zw_aI hx hb hW e22 dX9_stands_139 ?_
                      refine lv_iadd hx hb dX9_stands_140 ?_
                      refine lv_iload hx hb dX9_stands_141 (lv_at hl.1 5 rfl) ?_
                      refine lv_iadd hx hb dX9_stands_143 ?_
                      obtain ⟨v23, e23, hf⟩ := ob hf
                      refine zw_aI hx hb hW e23 dX9_stands_144 ?_
                      refine lv_goto (tgt := 149) hx hb dX9_stands_145 (by decide) ?_
                      obtain ⟨rfl, rfl⟩ := oret hf
                      exact zw_ireturn F hW hS dX9_stands_149
              · have hf := oift c14 hf
                refine lv_iload hx hb dX9_stands_69 (lv_at hl.1 5 rfl) ?_
                refine lv_if_lt (tgt := 101) hx hb dX9_stands_71 (by decide) (fun c24 => ?_) (fun c24 => ?_)
                · have hf := oift c24 hf
                  refine lv_iconst (v := (-1)) hx hb dX9_stands_101 (by decide) ?_
                  obtain ⟨rfl, rfl⟩ := oret hf
                  exact zw_ireturn F hW hS dX9_stands_102
                · have hf := oiff c24 hf
                  refine lv_iload hx hb dX9_stands_74 (lv_at hl.1 5 rfl) ?_
                  refine zw_aload_n hx hb dX9_stands_76 rfl (lv_at hl.1 1 rfl) ?_
                  obtain ⟨v25, e25, hf⟩ := ob hf
                  refine zw_gR hx hb hts inX9 hown hW (ci := 9) rfl (by decide) 9 (by decide) (hts _ wd_598) e25 (fun _ _ => rfl) dX9_stands_77 ?_
                  refine lv_iload_n hx hb dX9_stands_80 rfl (lv_at hl.1 2 rfl) ?_
                  obtain ⟨v26, e26, hf⟩ := ob hf
                  refine zw_aI hx hb hW e26 dX9_stands_81 ?_
                  refine lv_icmp_ge (tgt := 101) hx hb dX9_stands_82 (by decide) (fun c27 => ?_) (fun c27 => ?_)
                  · have hf := oift c27 hf
                    refine lv_iconst (v := (-1)) hx hb dX9_stands_101 (by decide) ?_
                    obtain ⟨rfl, rfl⟩ := oret hf
                    exact zw_ireturn F hW hS dX9_stands_102
                  · have hf := oiff c27 hf
                    refine zw_aload_n hx hb dX9_stands_85 rfl (lv_at hl.1 1 rfl) ?_
                    obtain ⟨v28, e28, hf⟩ := ob hf
                    refine zw_gR hx hb hts inX9 hown hW (ci := 9) rfl (by decide) 25 (by decide) (hts _ wd_614) e28 (fun _ _ => rfl) dX9_stands_86 ?_
                    refine lv_bipush (v := 12) hx hb dX9_stands_89 (by decide) ?_
                    refine lv_iload hx hb dX9_stands_91 (lv_at hl.1 0 rfl) ?_
                    refine lv_imul hx hb dX9_stands_93 ?_
                    refine lv_iload hx hb dX9_stands_94 (lv_at hl.1 5 rfl) ?_
                    refine lv_iadd hx hb dX9_stands_96 ?_
                    obtain ⟨v29, e29, hf⟩ := ob hf
                    refine zw_aI hx hb hW e29 dX9_stands_97 ?_
                    refine lv_goto (tgt := 102) hx hb dX9_stands_98 (by decide) ?_
                    obtain ⟨rfl, rfl⟩ := oret hf
                    exact zw_ireturn F hW hS dX9_stands_102
            · have hf := oift c13 hf
              refine zw_aload_n hx hb dX9_stands_56 rfl (lv_at hl.1 1 rfl) ?_
              obtain ⟨v30, e30, hf⟩ := ob hf
              refine zw_gR hx hb hts inX9 hown hW (ci := 9) rfl (by decide) 24 (by decide) (hts _ wd_613) e30 (fun _ _ => rfl) dX9_stands_57 ?_
              refine lv_iload hx hb dX9_stands_60 (lv_at hl.1 0 rfl) ?_
              obtain ⟨v31, e31, hf⟩ := ob hf
              refine zw_aI hx hb hW e31 dX9_stands_62 ?_
              obtain ⟨rfl, rfl⟩ := oret hf
              exact zw_ireturn F hW hS dX9_stands_63
          · have hf := oiff c12 hf
            refine lv_iconst (v := (-1)) hx hb dX9_stands_50 (by decide) ?_
            obtain ⟨rfl, rfl⟩ := oret hf
            exact zw_ireturn F hW hS dX9_stands_51
set_option maxRecDepth 100000 in
set_option maxHeartbeats 4000000 in
theorem kX9_stands (l : Launch) (D : va_G) (base : Nat) (a0 : Option Nat) (a1 : Int32) (a2 : Int32) (a3 : Int32) (a4 : Int32) (h : zH) {r : Int32} {h' : zH} (hf : fX9_stands a0 a1 a2 a3 a4 h = some (r, h')) : zMet l D base yX9_stands cX9_stands 6 (some .int) rmX9_stands h [va_rf a0, .int a1, .int a2, .int a3, .int a4] (some (.int r)) h' :=
  zMet.of (by decide +kernel) (fun v hv => by simp only [List.mem_cons, List.not_mem_nil, or_false] at hv; rcases hv with rfl | rfl | rfl | rfl | rfl <;> first | rfl | exact va_rf_cat _) (Nat.le_of_ble_eq_true rfl) (fun p e s m args below meth c ls F hi hl hW hS => kX9_stands_w F a0 a1 a2 a3 a4 h hf s.heap [] ls hl hW hS)
set_option maxRecDepth 100000 in
set_option maxHeartbeats 4000000 in
theorem kX9_looked_w (F : zF p s m args meth c cX9_looked 1 RX9 (some .int)) {r : Int32} {h' : zH} (a0 : Option Nat) (h : zH) (hf : fX9_looked a0 h = some (r, h')) (H : Heap) (locs : List Loc) (ls : Array Slot) (hl : zhas ls 1 [(0, va_rf a0)]) (hW : z_W D base s h H) (hS : va_S (zA base) s.heap H locs) : W p l e rmX9_looked s m args below meth c H locs 0 0 (MQ below (zQ D base (some (.int r)) h') args s rmX9_looked.cells rmX9_looked.slots (zA base)) (F0 m 0 ls []) := by
  obtain ⟨hx, hb, hml, hown, hts, hret, hlk, hZ⟩ := id F
  unfold fX9_looked at hf
  refine zw_aload_n hx hb dX9_looked_0 rfl (lv_at hl.1 0 rfl) ?_
  obtain ⟨v1, e1, hf⟩ := ob hf
  refine zw_gI hx hb hts inX9 hown hW (ci := 9) rfl (by decide) 27 (by decide) (hts _ wd_616) e1 (fun _ _ => rfl) dX9_looked_1 ?_
  obtain ⟨rfl, rfl⟩ := oret hf
  exact zw_ireturn F hW hS dX9_looked_4
set_option maxRecDepth 100000 in
set_option maxHeartbeats 4000000 in
theorem kX9_looked (l : Launch) (D : va_G) (base : Nat) (a0 : Option Nat) (h : zH) {r : Int32} {h' : zH} (hf : fX9_looked a0 h = some (r, h')) : zMet l D base yX9_looked cX9_looked 1 (some .int) rmX9_looked h [va_rf a0] (some (.int r)) h' :=
  zMet.of (by decide +kernel) (fun v hv => by simp only [List.mem_cons, List.not_mem_nil, or_false] at hv; subst hv; first | rfl | exact va_rf_cat _) (Nat.le_of_ble_eq_true rfl) (fun p e s m args below meth c ls F hi hl hW hS => kX9_looked_w F a0 h hf s.heap [] ls hl hW hS)
end
