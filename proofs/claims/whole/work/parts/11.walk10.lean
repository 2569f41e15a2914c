section
variable {p : Program} {l : Launch} {e : Env} {s : State} {m : MethodId} {args : Array Value} {below : List Frame} {meth : Method} {c : Code} {D : va_G} {base : Nat}
set_option maxRecDepth 100000 in
set_option maxHeartbeats 4000000 in
theorem kX9_come_b216 (N : Nat) {r : Int32} {h' : zH} (k122 : Option Nat → Int32 → Int32 → Int32 → Int32 → zH → Option (Int32 × zH)) (hk122 : ∀ (l0 : Option Nat) (l2 : Int32) (l3 : Int32) (l4 : Int32) (l5 : Int32) (h : zH), k122 l0 l2 l3 l4 l5 h = some (r, h') → ∀ (H : Heap) (locs : List Loc) (ls : Array Slot), zhas ls 7 [(0, va_rf l0), (2, .int l2), (3, .int l3), (4, .int l4), (5, .int l5)] → z_W D base s h H → va_S (zA base) s.heap H locs → W p l e rmX9_come s m args below meth c H locs 0 0 (MQ below (zQ D base (some (.int r)) h') args s rmX9_come.cells rmX9_come.slots (zA base)) (F0 m 122 ls [])) (F : zF p s m args meth c cX9_come 7 RX9 (some .boolean)) (l0 : Option Nat) (l2 : Int32) (l3 : Int32) (l4 : Int32) (l5 : Int32) (l6 : Int32) (s0 : Int32) (s1 : Int32) (s2 : Option Nat) (h : zH) (hf : fX9_come_b216 N k122 l0 l2 l3 l4 l5 l6 s0 s1 s2 h = some (r, h')) (H : Heap) (locs : List Loc) (ls : Array Slot) (hl : zhas ls 7 [(0, va_rf l0), (2, .int l2), (3, .int l3), (4, .int l4), (5, .int l5), (6, .int l6)]) (hW : z_W D base s h H) (hS : va_S (zA base) s.heap H locs) : W p l e rmX9_come s m args below meth c H locs 0 0 (MQ below (zQ D base (some (.int r)) h') args s rmX9_come.cells rmX9_come.slots (zA base)) (F0 m 216 ls [.int s0, .int s1, va_rf s2]) := by
  obtain ⟨hx, hb, hml, hown, hts, hret, hlk, hZ⟩ := id F
  unfold fX9_come_b216 at hf
  obtain ⟨h1, e1, hf⟩ := ob hf
  refine zw_sZ hx hb hW hS e1 dX9_come_216 (fun H locs hW hS => ?_)
  refine zw_aload_n hx hb dX9_come_217 rfl (lv_at hl.1 0 rfl) ?_
  obtain ⟨v2, e2, hf⟩ := ob hf
  refine zw_gR hx hb hts inX9 hown hW (ci := 9) rfl (by decide) 25 (by decide) (hts _ wd_614) e2 (fun _ _ => rfl) dX9_come_218 ?_
  refine lv_bipush (v := 12) hx hb dX9_come_221 (by decide) ?_
  refine lv_iload hx hb dX9_come_223 (lv_at hl.1 3 rfl) ?_
  refine lv_imul hx hb dX9_come_225 ?_
  refine lv_iload hx hb dX9_come_226 (lv_at hl.1 4 rfl) ?_
  refine lv_iadd hx hb dX9_come_228 ?_
  refine lv_iload hx hb dX9_come_229 (lv_at hl.1 5 rfl) ?_
  obtain ⟨h3, e3, hf⟩ := ob hf
  refine zw_sI hx hb hW hS e3 dX9_come_231 (fun H locs hW hS => ?_)
  refine zl_iinc (v := (l5 + 1)) (lv' := [(5, .int (l5 + 1)), (0, va_rf l0), (2, .int l2), (3, .int l3), (4, .int l4), (6, .int l6)]) hx hb dX9_come_232 hl (k := 4) rfl rfl (by decide) rfl (fun ls hl => ?_)
  refine lv_goto (tgt := 122) hx hb dX9_come_235 (by decide) ?_
  exact hk122 l0 l2 l3 l4 (l5 + 1) h3 hf H locs ls (z_sub hl [1, 2, 3, 4, 0] rfl) hW hS
set_option maxRecDepth 100000 in
set_option maxHeartbeats 4000000 in
theorem kX9_come_b211 (N : Nat) {r : Int32} {h' : zH} (k122 : Option Nat → Int32 → Int32 → Int32 → Int32 → zH → Option (Int32 × zH)) (hk122 : ∀ (l0 : Option Nat) (l2 : Int32) (l3 : Int32) (l4 : Int32) (l5 : Int32) (h : zH), k122 l0 l2 l3 l4 l5 h = some (r, h') → ∀ (H : Heap) (locs : List Loc) (ls : Array Slot), zhas ls 7 [(0, va_rf l0), (2, .int l2), (3, .int l3), (4, .int l4), (5, .int l5)] → z_W D base s h H → va_S (zA base) s.heap H locs → W p l e rmX9_come s m args below meth c H locs 0 0 (MQ below (zQ D base (some (.int r)) h') args s rmX9_come.cells rmX9_come.slots (zA base)) (F0 m 122 ls [])) (F : zF p s m args meth c cX9_come 7 RX9 (some .boolean)) (l0 : Option Nat) (l2 : Int32) (l3 : Int32) (l4 : Int32) (l5 : Int32) (l6 : Int32) (s0 : Int32) (s1 : Option Nat) (h : zH) (hf : fX9_come_b211 N k122 l0 l2 l3 l4 l5 l6 s0 s1 h = some (r, h')) (H : Heap) (locs : List Loc) (ls : Array Slot) (hl : zhas ls 7 [(0, va_rf l0), (2, .int l2), (3, .int l3), (4, .int l4), (5, .int l5), (6, .int l6)]) (hW : z_W D base s h H) (hS : va_S (zA base) s.heap H locs) : W p l e rmX9_come s m args below meth c H locs 0 0 (MQ below (zQ D base (some (.int r)) h') args s rmX9_come.cells rmX9_come.slots (zA base)) (F0 m 211 ls [.int s0, va_rf s1]) := by
  obtain ⟨hx, hb, hml, hown, hts, hret, hlk, hZ⟩ := id F
  unfold fX9_come_b211 at hf
  refine lv_iconst (v := 1) hx hb dX9_come_211 (by decide) ?_
  refine lv_goto (tgt := 216) hx hb dX9_come_212 (by decide) ?_
  exact kX9_come_b216 N k122 hk122 F l0 l2 l3 l4 l5 l6 1 s0 s1 h hf H locs ls (z_sub hl [0, 1, 2, 3, 4, 5] rfl) hW hS
set_option maxRecDepth 100000 in
set_option maxHeartbeats 4000000 in
theorem kX9_come_b179 (N : Nat) {r : Int32} {h' : zH} (k122 : Option Nat → Int32 → Int32 → Int32 → Int32 → zH → Option (Int32 × zH)) (hk122 : ∀ (l0 : Option Nat) (l2 : Int32) (l3 : Int32) (l4 : Int32) (l5 : Int32) (h : zH), k122 l0 l2 l3 l4 l5 h = some (r, h') → ∀ (H : Heap) (locs : List Loc) (ls : Array Slot), zhas ls 7 [(0, va_rf l0), (2, .int l2), (3, .int l3), (4, .int l4), (5, .int l5)] → z_W D base s h H → va_S (zA base) s.heap H locs → W p l e rmX9_come s m args below meth c H locs 0 0 (MQ below (zQ D base (some (.int r)) h') args s rmX9_come.cells rmX9_come.slots (zA base)) (F0 m 122 ls [])) (F : zF p s m args meth c cX9_come 7 RX9 (some .boolean)) (l0 : Option Nat) (l2 : Int32) (l3 : Int32) (l4 : Int32) (l5 : Int32) (l6 : Int32) (h : zH) (hf : fX9_come_b179 N k122 l0 l2 l3 l4 l5 l6 h = some (r, h')) (H : Heap) (locs : List Loc) (ls : Array Slot) (hl : zhas ls 7 [(0, va_rf l0), (2, .int l2), (3, .int l3), (4, .int l4), (5, .int l5), (6, .int l6)]) (hW : z_W D base s h H) (hS : va_S (zA base) s.heap H locs) : W p l e rmX9_come s m args below meth c H locs 0 0 (MQ below (zQ D base (some (.int r)) h') args s rmX9_come.cells rmX9_come.slots (zA base)) (F0 m 179 ls []) := by
  obtain ⟨hx, hb, hml, hown, hts, hret, hlk, hZ⟩ := id F
  unfold fX9_come_b179 at hf
  refine zw_aload_n hx hb dX9_come_179 rfl (lv_at hl.1 0 rfl) ?_
  obtain ⟨v1, e1, hf⟩ := ob hf
  refine zw_gR hx hb hts inX9 hown hW (ci := 9) rfl (by decide) 26 (by decide) (hts _ wd_615) e1 (fun _ _ => rfl) dX9_come_180 ?_
  refine lv_iload_n hx hb dX9_come_183 rfl (lv_at hl.1 1 rfl) ?_
  refine zw_aload_n hx hb dX9_come_184 rfl (lv_at hl.1 0 rfl) ?_
  obtain ⟨v2, e2, hf⟩ := ob hf
  refine zw_gR hx hb hts inX9 hown hW (ci := 9) rfl (by decide) 26 (by decide) (hts _ wd_615) e2 (fun _ _ => rfl) dX9_come_185 ?_
  refine lv_iload_n hx hb dX9_come_188 rfl (lv_at hl.1 1 rfl) ?_
  obtain ⟨v3, e3, hf⟩ := ob hf
  refine zw_aZ hx hb hW e3 dX9_come_189 ?_
  refine lv_if_ne (tgt := 211) hx hb dX9_come_190 (by decide) (fun c4 => ?_) (fun c4 => ?_)
  · have hf := oiff c4 hf
    exact kX9_come_b211 N k122 hk122 F l0 l2 l3 l4 l5 l6 l2 v1 h hf H locs ls (z_sub hl [0, 1, 2, 3, 4, 5] rfl) hW hS
  · have hf := oift c4 hf
    refine lv_iload hx hb dX9_come_193 (lv_at hl.1 5 rfl) ?_
    refine zw_aload_n hx hb dX9_come_195 rfl (lv_at hl.1 0 rfl) ?_
    obtain ⟨v5, e5, hf⟩ := ob hf
    refine zw_gR hx hb hts inX9 hown hW (ci := 9) rfl (by decide) 25 (by decide) (hts _ wd_614) e5 (fun _ _ => rfl) dX9_come_196 ?_
    refine lv_bipush (v := 12) hx hb dX9_come_199 (by decide) ?_
    refine lv_iload hx hb dX9_come_201 (lv_at hl.1 3 rfl) ?_
    refine lv_imul hx hb dX9_come_203 ?_
    refine lv_iload hx hb dX9_come_204 (lv_at hl.1 4 rfl) ?_
    refine lv_iadd hx hb dX9_come_206 ?_
    obtain ⟨v6, e6, hf⟩ := ob hf
    refine zw_aI hx hb hW e6 dX9_come_207 ?_
    refine lv_icmp_eq (tgt := 215) hx hb dX9_come_208 (by decide) (fun c7 => ?_) (fun c7 => ?_)
    · have hf := oift c7 hf
      refine lv_iconst (v := 0) hx hb dX9_come_215 (by decide) ?_
      exact kX9_come_b216 N k122 hk122 F l0 l2 l3 l4 l5 l6 0 l2 v1 h hf H locs ls (z_sub hl [0, 1, 2, 3, 4, 5] rfl) hW hS
    · have hf := oiff c7 hf
      exact kX9_come_b211 N k122 hk122 F l0 l2 l3 l4 l5 l6 l2 v1 h hf H locs ls (z_sub hl [0, 1, 2, 3, 4, 5] rfl) hW hS
set_option maxRecDepth 100000 in
set_option maxHeartbeats 4000000 in
theorem kX9_come_b122 (N : Nat) {r : Int32} {h' : zH} (F : zF p s m args meth c cX9_come 7 RX9 (some .boolean)) : ∀ (n : Nat) (l0 : Option Nat) (l2 : Int32) (l3 : Int32) (l4 : Int32) (l5 : Int32) (h : zH), fX9_come_b122 N n l0 l2 l3 l4 l5 h = some (r, h') → ∀ (H : Heap) (locs : List Loc) (ls : Array Slot), zhas ls 7 [(0, va_rf l0), (2, .int l2), (3, .int l3), (4, .int l4), (5, .int l5)] → z_W D base s h H → va_S (zA base) s.heap H locs → W p l e rmX9_come s m args below meth c H locs 0 0 (MQ below (zQ D base (some (.int r)) h') args s rmX9_come.cells rmX9_come.slots (zA base)) (F0 m 122 ls []) := by
  obtain ⟨hx, hb, hml, hown, hts, hret, hlk, hZ⟩ := id F
  intro n
  induction n with
  | zero =>
    intro l0 l2 l3 l4 l5 h hf
    rw [fX9_come_b122] at hf
    cases hf
  | succ n ih =>
    intro l0 l2 l3 l4 l5 h hf H locs ls hl hW hS
    rw [fX9_come_b122] at hf
    refine lv_iload hx hb dX9_come_122 (lv_at hl.1 4 rfl) ?_
    refine lv_iload_n hx hb dX9_come_124 rfl (lv_at hl.1 2 rfl) ?_
    refine zw_aload_n hx hb dX9_come_125 rfl (lv_at hl.1 0 rfl) ?_
    obtain ⟨v1, e1, hf⟩ := ob hf
    refine zw_gI hx hb hts inX9 hown hW (ci := 9) rfl (by decide) 29 (by decide) (hts _ wd_618) e1 (fun _ _ => rfl) dX9_come_126 ?_
    refine lv_iadd hx hb dX9_come_129 ?_
    refine lv_icmp_ge (tgt := 238) hx hb dX9_come_130 (by decide) (fun c2 => ?_) (fun c2 => ?_)
    · have hf := oift c2 hf
      refine lv_iconst (v := 1) hx hb dX9_come_238 (by decide) ?_
      obtain ⟨rfl, rfl⟩ := oret hf
      exact zw_zreturn F (by decide) hW hS dX9_come_239
    · have hf := oiff c2 hf
      refine zw_aload_n hx hb dX9_come_133 rfl (lv_at hl.1 0 rfl) ?_
      refine zw_aload_n hx hb dX9_come_134 rfl (lv_at hl.1 0 rfl) ?_
      obtain ⟨v3, e3, hf⟩ := ob hf
      refine zw_gR hx hb hts inX9 hown hW (ci := 9) rfl (by decide) 25 (by decide) (hts _ wd_614) e3 (fun _ _ => rfl) dX9_come_135 ?_
      refine lv_bipush (v := 12) hx hb dX9_come_138 (by decide) ?_
      refine lv_iload hx hb dX9_come_140 (lv_at hl.1 3 rfl) ?_
      refine lv_imul hx hb dX9_come_142 ?_
      refine lv_iload hx hb dX9_come_143 (lv_at hl.1 4 rfl) ?_
      refine lv_iadd hx hb dX9_come_145 ?_
      obtain ⟨v4, e4, hf⟩ := ob hf
      refine zw_aI hx hb hW e4 dX9_come_146 ?_
      refine zw_aload_n hx hb dX9_come_147 rfl (lv_at hl.1 0 rfl) ?_
      obtain ⟨v5, e5, hf⟩ := ob hf
      refine zw_gR hx hb hts inX9 hown hW (ci := 9) rfl (by decide) 28 (by decide) (hts _ wd_617) e5 (fun _ _ => rfl) dX9_come_148 ?_
      refine lv_iload hx hb dX9_come_151 (lv_at hl.1 4 rfl) ?_
      obtain ⟨v6, e6, hf⟩ := ob hf
      refine zw_aI hx hb hW e6 dX9_come_153 ?_
      obtain ⟨a907, j7, hf⟩ := ob hf
      obtain ⟨q7, e7, hf⟩ := ob hf
      refine zw_callV (rest := []) (n := 2) F (kX9_meet (r := q7.1) (h' := q7.2) l D base N l0 v4 v6 h e7) 9 rfl (by decide) j7 wd_743 wd_745 ws_30 wd_6 wd_746 (by decide +kernel) ⟨by decide, by decide⟩ hW hS rfl hl.1.1 (by decide) rfl ⟨(by decide), (by decide)⟩ dX9_come_154 (fun H locs hW hS => ?_)
      refine W.eq (g2 := F0 m 157 ls [.int q7.1]) rfl ?_
      refine zl_istore (lv' := [(6, .int q7.1), (0, va_rf l0), (2, .int l2), (3, .int l3), (4, .int l4), (5, .int l5)]) hx hb dX9_come_157 hl (by decide) rfl (fun ls hl => ?_)
      refine lv_iload hx hb dX9_come_159 (lv_at hl.1 5 rfl) ?_
      refine lv_iload_n hx hb dX9_come_161 rfl (lv_at hl.1 3 rfl) ?_
      refine lv_icmp_lt (tgt := 179) hx hb dX9_come_162 (by decide) (fun c8 => ?_) (fun c8 => ?_)
      · have hf := oift c8 hf
        exact kX9_come_b179 N (fX9_come_b122 N n) (fun l0 l2 l3 l4 l5 h hf H locs ls hl hW hS => ih l0 l2 l3 l4 l5 h hf H locs ls hl hW hS) F l0 l2 l3 l4 l5 q7.1 q7.2 hf H locs ls (z_sub hl [1, 2, 3, 4, 5, 0] rfl) hW hS
      · have hf := oiff c8 hf
        refine lv_iload hx hb dX9_come_165 (lv_at hl.1 0 rfl) ?_
        refine lv_bipush (v := 99) hx hb dX9_come_167 (by decide) ?_
        refine lv_icmp_ne (tgt := 179) hx hb dX9_come_169 (by decide) (fun c9 => ?_) (fun c9 => ?_)
        · have hf := oiff c9 hf
          exact kX9_come_b179 N (fX9_come_b122 N n) (fun l0 l2 l3 l4 l5 h hf H locs ls hl hW hS => ih l0 l2 l3 l4 l5 h hf H locs ls hl hW hS) F l0 l2 l3 l4 l5 q7.1 q7.2 hf H locs ls (z_sub hl [1, 2, 3, 4, 5, 0] rfl) hW hS
        · have hf := oift c9 hf
          refine zw_aload_n hx hb dX9_come_172 rfl (lv_at hl.1 1 rfl) ?_
          refine lv_iload_n hx hb dX9_come_173 rfl (lv_at hl.1 2 rfl) ?_
          obtain ⟨h10, e10, hf⟩ := ob hf
          refine zw_pI hx hb hts inX9 tyX9 tyX9_ok nmX9 hown hW hS (ci := 9) rfl (by decide) 31 (by decide) (hts _ wd_620) (Or.inl rfl) (fun _ _ => rfl) rfl rfl e10 dX9_come_174 (fun H locs hW hS => ?_)
          refine lv_iconst (v := 0) hx hb dX9_come_177 (by decide) ?_
          obtain ⟨rfl, rfl⟩ := oret hf
          exact zw_zreturn F (by decide) hW hS dX9_come_178
set_option maxRecDepth 100000 in
set_option maxHeartbeats 4000000 in
theorem kX9_come_b52 (N : Nat) {r : Int32} {h' : zH} (F : zF p s m args meth c cX9_come 7 RX9 (some .boolean)) : ∀ (n : Nat) (l0 : Option Nat) (l2 : Int32) (l3 : Int32) (l4 : Int32) (l5 : Int32) (h : zH), fX9_come_b52 N n l0 l2 l3 l4 l5 h = some (r, h') → ∀ (H : Heap) (locs : List Loc) (ls : Array Slot), zhas ls 7 [(0, va_rf l0), (2, .int l2), (3, .int l3), (4, .int l4), (5, .int l5)] → z_W D base s h H → va_S (zA base) s.heap H locs → W p l e rmX9_come s m args below meth c H locs 0 0 (MQ below (zQ D base (some (.int r)) h') args s rmX9_come.cells rmX9_come.slots (zA base)) (F0 m 52 ls []) := by
  obtain ⟨hx, hb, hml, hown, hts, hret, hlk, hZ⟩ := id F
  intro n
  induction n with
  | zero =>
    intro l0 l2 l3 l4 l5 h hf
    rw [fX9_come_b52] at hf
    cases hf
  | succ n ih =>
    intro l0 l2 l3 l4 l5 h hf H locs ls hl hW hS
    rw [fX9_come_b52] at hf
    refine lv_iload hx hb dX9_come_52 (lv_at hl.1 4 rfl) ?_
    refine lv_iload_n hx hb dX9_come_54 rfl (lv_at hl.1 2 rfl) ?_
    refine zw_aload_n hx hb dX9_come_55 rfl (lv_at hl.1 0 rfl) ?_
    obtain ⟨v1, e1, hf⟩ := ob hf
    refine zw_gI hx hb hts inX9 hown hW (ci := 9) rfl (by decide) 29 (by decide) (hts _ wd_618) e1 (fun _ _ => rfl) dX9_come_56 ?_
    refine lv_iadd hx hb dX9_come_59 ?_
    refine lv_icmp_ge (tgt := 89) hx hb dX9_come_60 (by decide) (fun c2 => ?_) (fun c2 => ?_)
    · have hf := oift c2 hf
      refine zw_aload_n hx hb dX9_come_89 rfl (lv_at hl.1 0 rfl) ?_
      obtain ⟨v3, e3, hf⟩ := ob hf
      refine zw_gR hx hb hts inX9 hown hW (ci := 9) rfl (by decide) 26 (by decide) (hts _ wd_615) e3 (fun _ _ => rfl) dX9_come_90 ?_
      refine lv_iload_n hx hb dX9_come_93 rfl (lv_at hl.1 1 rfl) ?_
      refine lv_iconst (v := 1) hx hb dX9_come_94 (by decide) ?_
      obtain ⟨h4, e4, hf⟩ := ob hf
      refine zw_sZ hx hb hW hS e4 dX9_come_95 (fun H locs hW hS => ?_)
      refine lv_iconst (v := 1) hx hb dX9_come_96 (by decide) ?_
      obtain ⟨rfl, rfl⟩ := oret hf
      exact zw_zreturn F (by decide) hW hS dX9_come_97
    · have hf := oiff c2 hf
      refine zw_aload_n hx hb dX9_come_63 rfl (lv_at hl.1 0 rfl) ?_
      obtain ⟨v5, e5, hf⟩ := ob hf
      refine zw_gR hx hb hts inX9 hown hW (ci := 9) rfl (by decide) 25 (by decide) (hts _ wd_614) e5 (fun _ _ => rfl) dX9_come_64 ?_
      refine lv_bipush (v := 12) hx hb dX9_come_67 (by decide) ?_
      refine lv_iload hx hb dX9_come_69 (lv_at hl.1 3 rfl) ?_
      refine lv_imul hx hb dX9_come_71 ?_
      refine lv_iload hx hb dX9_come_72 (lv_at hl.1 4 rfl) ?_
      refine lv_iadd hx hb dX9_come_74 ?_
      refine zw_aload_n hx hb dX9_come_75 rfl (lv_at hl.1 0 rfl) ?_
      obtain ⟨v6, e6, hf⟩ := ob hf
      refine zw_gR hx hb hts inX9 hown hW (ci := 9) rfl (by decide) 28 (by decide) (hts _ wd_617) e6 (fun _ _ => rfl) dX9_come_76 ?_
      refine lv_iload hx hb dX9_come_79 (lv_at hl.1 4 rfl) ?_
      obtain ⟨v7, e7, hf⟩ := ob hf
      refine zw_aI hx hb hW e7 dX9_come_81 ?_
      obtain ⟨h8, e8, hf⟩ := ob hf
      refine zw_sI hx hb hW hS e8 dX9_come_82 (fun H locs hW hS => ?_)
      refine zl_iinc (v := (l5 + 1)) (lv' := [(5, .int (l5 + 1)), (0, va_rf l0), (2, .int l2), (3, .int l3), (4, .int l4)]) hx hb dX9_come_83 hl (k := 4) rfl rfl (by decide) rfl (fun ls hl => ?_)
      refine lv_goto (tgt := 52) hx hb dX9_come_86 (by decide) ?_
      exact ih l0 l2 l3 l4 (l5 + 1) h8 hf H locs ls (z_sub hl [1, 2, 3, 4, 0] rfl) hW hS
set_option maxRecDepth 100000 in
set_option maxHeartbeats 4000000 in
theorem kX9_come_w (N : Nat) (F : zF p s m args meth c cX9_come 7 RX9 (some .boolean)) {r : Int32} {h' : zH} (a0 : Option Nat) (a1 : Int32) (a2 : Int32) (h : zH) (hf : fX9_come N a0 a1 a2 h = some (r, h')) (H : Heap) (locs : List Loc) (ls : Array Slot) (hl : zhas ls 7 [(0, va_rf a0), (1, .int a1), (2, .int a2)]) (hW : z_W D base s h H) (hS : va_S (zA base) s.heap H locs) : W p l e rmX9_come s m args below meth c H locs 0 0 (MQ below (zQ D base (some (.int r)) h') args s rmX9_come.cells rmX9_come.slots (zA base)) (F0 m 0 ls []) := by
  obtain ⟨hx, hb, hml, hown, hts, hret, hlk, hZ⟩ := id F
  unfold fX9_come at hf
  refine lv_iload_n hx hb dX9_come_0 rfl (lv_at hl.1 2 rfl) ?_
  refine zw_aload_n hx hb dX9_come_1 rfl (lv_at hl.1 0 rfl) ?_
  obtain ⟨v1, e1, hf⟩ := ob hf
  refine zw_gR hx hb hts inX9 hown hW (ci := 9) rfl (by decide) 14 (by decide) (hts _ wd_603) e1 (fun _ _ => rfl) dX9_come_2 ?_
  refine lv_iload_n hx hb dX9_come_5 rfl (lv_at hl.1 1 rfl) ?_
  obtain ⟨v2, e2, hf⟩ := ob hf
  refine zw_aI hx hb hW e2 dX9_come_6 ?_
  refine lv_icmp_lt (tgt := 12) hx hb dX9_come_7 (by decide) (fun c3 => ?_) (fun c3 => ?_)
  · have hf := oift c3 hf
    refine zw_aload_n hx hb dX9_come_12 rfl (lv_at hl.1 0 rfl) ?_
    obtain ⟨v4, e4, hf⟩ := ob hf
    refine zw_gR hx hb hts inX9 hown hW (ci := 9) rfl (by decide) 9 (by decide) (hts _ wd_598) e4 (fun _ _ => rfl) dX9_come_13 ?_
    refine lv_iload_n hx hb dX9_come_16 rfl (lv_at hl.1 1 rfl) ?_
    obtain ⟨v5, e5, hf⟩ := ob hf
    refine zw_aI hx hb hW e5 dX9_come_17 ?_
    refine zl_istore_n (lv' := [(3, .int v5), (0, va_rf a0), (1, .int a1), (2, .int a2)]) hx hb dX9_come_18 rfl hl (by decide) rfl (fun ls hl => ?_)
    refine lv_sipush (v := 200) hx hb dX9_come_19 (by decide) ?_
    refine lv_iload_n hx hb dX9_come_22 rfl (lv_at hl.1 2 rfl) ?_
    refine lv_imul hx hb dX9_come_23 ?_
    refine lv_iload_n hx hb dX9_come_24 rfl (lv_at hl.1 3 rfl) ?_
    refine lv_iadd hx hb dX9_come_25 ?_
    refine zl_istore (lv' := [(4, .int ((200 * a1) + a2)), (3, .int v5), (0, va_rf a0), (1, .int a1), (2, .int a2)]) hx hb dX9_come_26 hl (by decide) rfl (fun ls hl => ?_)
    refine zw_aload_n hx hb dX9_come_28 rfl (lv_at hl.1 2 rfl) ?_
    obtain ⟨v6, e6, hf⟩ := ob hf
    refine zw_gR hx hb hts inX9 hown hW (ci := 9) rfl (by decide) 24 (by decide) (hts _ wd_613) e6 (fun _ _ => rfl) dX9_come_29 ?_
    refine lv_iload hx hb dX9_come_32 (lv_at hl.1 0 rfl) ?_
    obtain ⟨v7, e7, hf⟩ := ob hf
    refine zw_aI hx hb hW e7 dX9_come_34 ?_
    refine lv_if_ge (tgt := 98) hx hb dX9_come_35 (by decide) (fun c8 => ?_) (fun c8 => ?_)
    · have hf := oift c8 hf
      refine zw_aload_n hx hb dX9_come_98 rfl (lv_at hl.1 2 rfl) ?_
      obtain ⟨v9, e9, hf⟩ := ob hf
      refine zw_gR hx hb hts inX9 hown hW (ci := 9) rfl (by decide) 24 (by decide) (hts _ wd_613) e9 (fun _ _ => rfl) dX9_come_99 ?_
      refine lv_iload hx hb dX9_come_102 (lv_at hl.1 0 rfl) ?_
      obtain ⟨v10, e10, hf⟩ := ob hf
      refine zw_aI hx hb hW e10 dX9_come_104 ?_
      refine zw_aload_n hx hb dX9_come_105 rfl (lv_at hl.1 2 rfl) ?_
      obtain ⟨v11, e11, hf⟩ := ob hf
      refine zw_gI hx hb hts inX9 hown hW (ci := 9) rfl (by decide) 29 (by decide) (hts _ wd_618) e11 (fun _ _ => rfl) dX9_come_106 ?_
      refine lv_icmp_eq (tgt := 119) hx hb dX9_come_109 (by decide) (fun c12 => ?_) (fun c12 => ?_)
      · have hf := oift c12 hf
        refine lv_iconst (v := 0) hx hb dX9_come_119 (by decide) ?_
        refine zl_istore (lv' := [(5, .int 0), (4, .int ((200 * a1) + a2)), (3, .int v5), (0, va_rf a0), (1, .int a1), (2, .int a2)]) hx hb dX9_come_120 hl (by decide) rfl (fun ls hl => ?_)
        exact kX9_come_b122 N F N a0 a2 v5 ((200 * a1) + a2) 0 h hf H locs ls (z_sub hl [3, 5, 2, 1, 0] rfl) hW hS
      · have hf := oiff c12 hf
        refine zw_aload_n hx hb dX9_come_112 rfl (lv_at hl.1 2 rfl) ?_
        refine lv_iload_n hx hb dX9_come_113 rfl (lv_at hl.1 4 rfl) ?_
        obtain ⟨h13, e13, hf⟩ := ob hf
        refine zw_pI hx hb hts inX9 tyX9 tyX9_ok nmX9 hown hW hS (ci := 9) rfl (by decide) 31 (by decide) (hts _ wd_620) (Or.inl rfl) (fun _ _ => rfl) rfl rfl e13 dX9_come_114 (fun H locs hW hS => ?_)
        refine lv_iconst (v := 0) hx hb dX9_come_117 (by decide) ?_
        obtain ⟨rfl, rfl⟩ := oret hf
        exact zw_zreturn F (by decide) hW hS dX9_come_118
    · have hf := oiff c8 hf
      refine zw_aload_n hx hb dX9_come_38 rfl (lv_at hl.1 2 rfl) ?_
      obtain ⟨v14, e14, hf⟩ := ob hf
      refine zw_gR hx hb hts inX9 hown hW (ci := 9) rfl (by decide) 24 (by decide) (hts _ wd_613) e14 (fun _ _ => rfl) dX9_come_39 ?_
      refine lv_iload hx hb dX9_come_42 (lv_at hl.1 0 rfl) ?_
      refine zw_aload_n hx hb dX9_come_44 rfl (lv_at hl.1 2 rfl) ?_
      obtain ⟨v15, e15, hf⟩ := ob hf
      refine zw_gI hx hb hts inX9 hown hW (ci := 9) rfl (by decide) 29 (by decide) (hts _ wd_618) e15 (fun _ _ => rfl) dX9_come_45 ?_
      obtain ⟨h16, e16, hf⟩ := ob hf
      refine zw_sI hx hb hW hS e16 dX9_come_48 (fun H locs hW hS => ?_)
      refine lv_iconst (v := 0) hx hb dX9_come_49 (by decide) ?_
      refine zl_istore (lv' := [(5, .int 0), (4, .int ((200 * a1) + a2)), (3, .int v5), (0, va_rf a0), (1, .int a1), (2, .int a2)]) hx hb dX9_come_50 hl (by decide) rfl (fun ls hl => ?_)
      exact kX9_come_b52 N F N a0 a2 v5 ((200 * a1) + a2) 0 h16 hf H locs ls (z_sub hl [3, 5, 2, 1, 0] rfl) hW hS
  · have hf := oiff c3 hf
    refine lv_iconst (v := 0) hx hb dX9_come_10 (by decide) ?_
    obtain ⟨rfl, rfl⟩ := oret hf
    exact zw_zreturn F (by decide) hW hS dX9_come_11
set_option maxRecDepth 100000 in
set_option maxHeartbeats 4000000 in
theorem kX9_come (l : Launch) (D : va_G) (base : Nat) (N : Nat) (a0 : Option Nat) (a1 : Int32) (a2 : Int32) (h : zH) {r : Int32} {h' : zH} (hf : fX9_come N a0 a1 a2 h = some (r, h')) : zMet l D base yX9_come cX9_come 7 (some .boolean) rmX9_come h [va_rf a0, .int a1, .int a2] (some (.int r)) h' :=
  zMet.of (by decide +kernel) (fun v hv => by simp only [List.mem_cons, List.not_mem_nil, or_false] at hv; rcases hv with rfl | rfl | rfl <;> first | rfl | exact va_rf_cat _) (Nat.le_of_ble_eq_true rfl) (fun p e s m args below meth c ls F hi hl hW hS => kX9_come_w N F a0 a1 a2 h hf s.heap [] ls hl hW hS)
set_option maxRecDepth 100000 in
set_option maxHeartbeats 4000000 in
theorem kX9_takeUp_b26 (N : Nat) {h' : zH} (F : zF p s m args meth c cX9_takeUp 5 RX9 none) : ∀ (n : Nat) (l0 : Option Nat) (l1 : Int32) (l3 : Int32) (l4 : Int32) (h : zH), fX9_takeUp_b26 N n l0 l1 l3 l4 h = some h' → ∀ (H : Heap) (locs : List Loc) (ls : Array Slot), zhas ls 5 [(0, va_rf l0), (1, .int l1), (3, .int l3), (4, .int l4)] → z_W D base s h H → va_S (zA base) s.heap H locs → W p l e rmX9_takeUp s m args below meth c H locs 0 0 (MQ below (zQ D base none h') args s rmX9_takeUp.cells rmX9_takeUp.slots (zA base)) (F0 m 26 ls []) := by
  obtain ⟨hx, hb, hml, hown, hts, hret, hlk, hZ⟩ := id F
  intro n
  induction n with
  | zero =>
    intro l0 l1 l3 l4 h hf
    rw [fX9_takeUp_b26] at hf
    cases hf
  | succ n ih =>
    intro l0 l1 l3 l4 h hf H locs ls hl hW hS
    rw [fX9_takeUp_b26] at hf
    refine lv_iload hx hb dX9_takeUp_26 (lv_at hl.1 3 rfl) ?_
    refine zw_aload_n hx hb dX9_takeUp_28 rfl (lv_at hl.1 0 rfl) ?_
    obtain ⟨v1, e1, hf⟩ := ob hf
    refine zw_gR hx hb hts inX9 hown hW (ci := 9) rfl (by decide) 9 (by decide) (hts _ wd_598) e1 (fun _ _ => rfl) dX9_takeUp_29 ?_
    refine lv_iload_n hx hb dX9_takeUp_32 rfl (lv_at hl.1 1 rfl) ?_
    obtain ⟨v2, e2, hf⟩ := ob hf
    refine zw_aI hx hb hW e2 dX9_takeUp_33 ?_
    refine zw_aload_n hx hb dX9_takeUp_34 rfl (lv_at hl.1 0 rfl) ?_
    obtain ⟨v3, e3, hf⟩ := ob hf
    refine zw_gI hx hb hts inX9 hown hW (ci := 9) rfl (by decide) 29 (by decide) (hts _ wd_618) e3 (fun _ _ => rfl) dX9_takeUp_35 ?_
    refine lv_iadd hx hb dX9_takeUp_38 ?_
    refine lv_icmp_ge (tgt := 67) hx hb dX9_takeUp_39 (by decide) (fun c4 => ?_) (fun c4 => ?_)
    · have hf := oift c4 hf
      obtain rfl := oretv hf
      exact zw_vreturn F hW hS dX9_takeUp_67
    · have hf := oiff c4 hf
      refine zw_aload_n hx hb dX9_takeUp_42 rfl (lv_at hl.1 0 rfl) ?_
      obtain ⟨v5, e5, hf⟩ := ob hf
      refine zw_gR hx hb hts inX9 hown hW (ci := 9) rfl (by decide) 28 (by decide) (hts _ wd_617) e5 (fun _ _ => rfl) dX9_takeUp_43 ?_
      refine lv_iload hx hb dX9_takeUp_46 (lv_at hl.1 3 rfl) ?_
      refine zw_aload_n hx hb dX9_takeUp_48 rfl (lv_at hl.1 0 rfl) ?_
      obtain ⟨v6, e6, hf⟩ := ob hf
      refine zw_gR hx hb hts inX9 hown hW (ci := 9) rfl (by decide) 25 (by decide) (hts _ wd_614) e6 (fun _ _ => rfl) dX9_takeUp_49 ?_
      refine lv_bipush (v := 12) hx hb dX9_takeUp_52 (by decide) ?_
      refine lv_iload_n hx hb dX9_takeUp_54 rfl (lv_at hl.1 2 rfl) ?_
      refine lv_imul hx hb dX9_takeUp_55 ?_
      refine lv_iload hx hb dX9_takeUp_56 (lv_at hl.1 3 rfl) ?_
      refine lv_iadd hx hb dX9_takeUp_58 ?_
      obtain ⟨v7, e7, hf⟩ := ob hf
      refine zw_aI hx hb hW e7 dX9_takeUp_59 ?_
      obtain ⟨h8, e8, hf⟩ := ob hf
      refine zw_sI hx hb hW hS e8 dX9_takeUp_60 (fun H locs hW hS => ?_)
      refine zl_iinc (v := (l4 + 1)) (lv' := [(4, .int (l4 + 1)), (0, va_rf l0), (1, .int l1), (3, .int l3)]) hx hb dX9_takeUp_61 hl (k := 3) rfl rfl (by decide) rfl (fun ls hl => ?_)
      refine lv_goto (tgt := 26) hx hb dX9_takeUp_64 (by decide) ?_
      exact ih l0 l1 l3 (l4 + 1) h8 hf H locs ls (z_sub hl [1, 2, 3, 0] rfl) hW hS
set_option maxRecDepth 100000 in
set_option maxHeartbeats 4000000 in
theorem kX9_takeUp_w (N : Nat) (F : zF p s m args meth c cX9_takeUp 5 RX9 none) {h' : zH} (a0 : Option Nat) (a1 : Int32) (a2 : Int32) (h : zH) (hf : fX9_takeUp N a0 a1 a2 h = some h') (H : Heap) (locs : List Loc) (ls : Array Slot) (hl : zhas ls 5 [(0, va_rf a0), (1, .int a1), (2, .int a2)]) (hW : z_W D base s h H) (hS : va_S (zA base) s.heap H locs) : W p l e rmX9_takeUp s m args below meth c H locs 0 0 (MQ below (zQ D base none h') args s rmX9_takeUp.cells rmX9_takeUp.slots (zA base)) (F0 m 0 ls []) := by
  obtain ⟨hx, hb, hml, hown, hts, hret, hlk, hZ⟩ := id F
  unfold fX9_takeUp at hf
  refine lv_sipush (v := 200) hx hb dX9_takeUp_0 (by decide) ?_
  refine lv_iload_n hx hb dX9_takeUp_3 rfl (lv_at hl.1 1 rfl) ?_
  refine lv_imul hx hb dX9_takeUp_4 ?_
  refine lv_iload_n hx hb dX9_takeUp_5 rfl (lv_at hl.1 2 rfl) ?_
  refine lv_iadd hx hb dX9_takeUp_6 ?_
  refine zl_istore_n (lv' := [(3, .int ((200 * a1) + a2)), (0, va_rf a0), (1, .int a1), (2, .int a2)]) hx hb dX9_takeUp_7 rfl hl (by decide) rfl (fun ls hl => ?_)
  refine zw_aload_n hx hb dX9_takeUp_8 rfl (lv_at hl.1 1 rfl) ?_
  refine zw_aload_n hx hb dX9_takeUp_9 rfl (lv_at hl.1 1 rfl) ?_
  obtain ⟨v1, e1, hf⟩ := ob hf
  refine zw_gR hx hb hts inX9 hown hW (ci := 9) rfl (by decide) 24 (by decide) (hts _ wd_613) e1 (fun _ _ => rfl) dX9_takeUp_10 ?_
  refine lv_iload_n hx hb dX9_takeUp_13 rfl (lv_at hl.1 0 rfl) ?_
  obtain ⟨v2, e2, hf⟩ := ob hf
  refine zw_aI hx hb hW e2 dX9_takeUp_14 ?_
  obtain ⟨h3, e3, hf⟩ := ob hf
  refine zw_pI hx hb hts inX9 tyX9 tyX9_ok nmX9 hown hW hS (ci := 9) rfl (by decide) 29 (by decide) (hts _ wd_618) (Or.inl rfl) (fun _ _ => rfl) rfl rfl e3 dX9_takeUp_15 (fun H locs hW hS => ?_)
  refine zw_aload_n hx hb dX9_takeUp_18 rfl (lv_at hl.1 1 rfl) ?_
  refine lv_iload_n hx hb dX9_takeUp_19 rfl (lv_at hl.1 2 rfl) ?_
  obtain ⟨h4, e4, hf⟩ := ob hf
  refine zw_pI hx hb hts inX9 tyX9 tyX9_ok nmX9 hown hW hS (ci := 9) rfl (by decide) 30 (by decide) (hts _ wd_619) (Or.inl rfl) (fun _ _ => rfl) rfl rfl e4 dX9_takeUp_20 (fun H locs hW hS => ?_)
  refine lv_iconst (v := 0) hx hb dX9_takeUp_23 (by decide) ?_
  refine zl_istore (lv' := [(4, .int 0), (3, .int ((200 * a1) + a2)), (0, va_rf a0), (1, .int a1), (2, .int a2)]) hx hb dX9_takeUp_24 hl (by decide) rfl (fun ls hl => ?_)
  exact kX9_takeUp_b26 N F N a0 a1 ((200 * a1) + a2) 0 h4 hf H locs ls (z_sub hl [2, 3, 1, 0] rfl) hW hS
set_option maxRecDepth 100000 in
set_option maxHeartbeats 4000000 in
theorem kX9_takeUp (l : Launch) (D : va_G) (base : Nat) (N : Nat) (a0 : Option Nat) (a1 : Int32) (a2 : Int32) (h : zH) {h' : zH} (hf : fX9_takeUp N a0 a1 a2 h = some h') : zMet l D base yX9_takeUp cX9_takeUp 5 none rmX9_takeUp h [va_rf a0, .int a1, .int a2] none h' :=
  zMet.of (by decide +kernel) (fun v hv => by simp only [List.mem_cons, List.not_mem_nil, or_false] at hv; rcases hv with rfl | rfl | rfl <;> first | rfl | exact va_rf_cat _) (Nat.le_of_ble_eq_true rfl) (fun p e s m args below meth c ls F hi hl hW hS => kX9_takeUp_w N F a0 a1 a2 h hf s.heap [] ls hl hW hS)
set_option maxRecDepth 100000 in
set_option maxHeartbeats 4000000 in
theorem kX9_push_w (F : zF p s m args meth c cX9_push 2 RX9 (some .boolean)) {r : Int32} {h' : zH} (a0 : Option Nat) (a1 : Int32) (h : zH) (hf : fX9_push a0 a1 h = some (r, h')) (H : Heap) (locs : List Loc) (ls : Array Slot) (hl : zhas ls 2 [(0, va_rf a0), (1, .int a1)]) (hW : z_W D base s h H) (hS : va_S (zA base) s.heap H locs) : W p l e rmX9_push s m args below meth c H locs 0 0 (MQ below (zQ D base (some (.int r)) h') args s rmX9_push.cells rmX9_push.slots (zA base)) (F0 m 0 ls []) := by
  obtain ⟨hx, hb, hml, hown, hts, hret, hlk, hZ⟩ := id F
  unfold fX9_push at hf
  refine zw_aload_n hx hb dX9_push_0 rfl (lv_at hl.1 0 rfl) ?_
  obtain ⟨v1, e1, hf⟩ := ob hf
  refine zw_gI hx hb hts inX9 hown hW (ci := 9) rfl (by decide) 29 (by decide) (hts _ wd_618) e1 (fun _ _ => rfl) dX9_push_1 ?_
  refine zw_aload_n hx hb dX9_push_4 rfl (lv_at hl.1 0 rfl) ?_
  obtain ⟨v2, e2, hf⟩ := ob hf
  refine zw_gR hx hb hts inX9 hown hW (ci := 9) rfl (by decide) 10 (by decide) (hts _ wd_599) e2 (fun _ _ => rfl) dX9_push_5 ?_
  refine zw_aload_n hx hb dX9_push_8 rfl (lv_at hl.1 0 rfl) ?_
  obtain ⟨v3, e3, hf⟩ := ob hf
  refine zw_gI hx hb hts inX9 hown hW (ci := 9) rfl (by decide) 30 (by decide) (hts _ wd_619) e3 (fun _ _ => rfl) dX9_push_9 ?_
  obtain ⟨v4, e4, hf⟩ := ob hf
  refine zw_aI hx hb hW e4 dX9_push_12 ?_
  refine lv_icmp_ne (tgt := 18) hx hb dX9_push_13 (by decide) (fun c5 => ?_) (fun c5 => ?_)
  · have hf := oiff c5 hf
    refine zw_aload_n hx hb dX9_push_18 rfl (lv_at hl.1 0 rfl) ?_
    obtain ⟨v6, e6, hf⟩ := ob hf
    refine zw_gR hx hb hts inX9 hown hW (ci := 9) rfl (by decide) 28 (by decide) (hts _ wd_617) e6 (fun _ _ => rfl) dX9_push_19 ?_
    refine zw_aload_n hx hb dX9_push_22 rfl (lv_at hl.1 0 rfl) ?_
    obtain ⟨v7, e7, hf⟩ := ob hf
    refine zw_gR hx hb hts inX9 hown hW (ci := 9) rfl (by decide) 9 (by decide) (hts _ wd_598) e7 (fun _ _ => rfl) dX9_push_23 ?_
    refine zw_aload_n hx hb dX9_push_26 rfl (lv_at hl.1 0 rfl) ?_
    obtain ⟨v8, e8, hf⟩ := ob hf
    refine zw_gI hx hb hts inX9 hown hW (ci := 9) rfl (by decide) 30 (by decide) (hts _ wd_619) e8 (fun _ _ => rfl) dX9_push_27 ?_
    obtain ⟨v9, e9, hf⟩ := ob hf
    refine zw_aI hx hb hW e9 dX9_push_30 ?_
    refine zw_aload_n hx hb dX9_push_31 rfl (lv_at hl.1 0 rfl) ?_
    obtain ⟨v10, e10, hf⟩ := ob hf
    refine zw_gI hx hb hts inX9 hown hW (ci := 9) rfl (by decide) 29 (by decide) (hts _ wd_618) e10 (fun _ _ => rfl) dX9_push_32 ?_
    refine lv_iadd hx hb dX9_push_35 ?_
    refine lv_iload_n hx hb dX9_push_36 rfl (lv_at hl.1 1 rfl) ?_
    obtain ⟨h11, e11, hf⟩ := ob hf
    refine zw_sI hx hb hW hS e11 dX9_push_37 (fun H locs hW hS => ?_)
    refine zw_aload_n hx hb dX9_push_38 rfl (lv_at hl.1 0 rfl) ?_
    refine lv_dup hx hb dX9_push_39 (va_rf_cat _) ?_
    obtain ⟨v12, e12, hf⟩ := ob hf
    refine zw_gI hx hb hts inX9 hown hW (ci := 9) rfl (by decide) 29 (by decide) (hts _ wd_618) e12 (fun _ _ => rfl) dX9_push_40 ?_
    refine lv_iconst (v := 1) hx hb dX9_push_43 (by decide) ?_
    refine lv_iadd hx hb dX9_push_44 ?_
    obtain ⟨h13, e13, hf⟩ := ob hf
    refine zw_pI hx hb hts inX9 tyX9 tyX9_ok nmX9 hown hW hS (ci := 9) rfl (by decide) 29 (by decide) (hts _ wd_618) (Or.inl rfl) (fun _ _ => rfl) rfl rfl e13 dX9_push_45 (fun H locs hW hS => ?_)
    refine lv_iconst (v := 1) hx hb dX9_push_48 (by decide) ?_
    obtain ⟨rfl, rfl⟩ := oret hf
    exact zw_zreturn F (by decide) hW hS dX9_push_49
  · have hf := oift c5 hf
    refine lv_iconst (v := 0) hx hb dX9_push_16 (by decide) ?_
    obtain ⟨rfl, rfl⟩ := oret hf
    exact zw_zreturn F (by decide) hW hS dX9_push_17
set_option maxRecDepth 100000 in
set_option maxHeartbeats 4000000 in
theorem kX9_push (l : Launch) (D : va_G) (base : Nat) (a0 : Option Nat) (a1 : Int32) (h : zH) {r : Int32} {h' : zH} (hf : fX9_push a0 a1 h = some (r, h')) : zMet l D base yX9_push cX9_push 2 (some .boolean) rmX9_push h [va_rf a0, .int a1] (some (.int r)) h' :=
  zMet.of (by decide +kernel) (fun v hv => by simp only [List.mem_cons, List.not_mem_nil, or_false] at hv; rcases hv with rfl | rfl <;> first | rfl | exact va_rf_cat _) (Nat.le_of_ble_eq_true rfl) (fun p e s m args below meth c ls F hi hl hW hS => kX9_push_w F a0 a1 h hf s.heap [] ls hl hW hS)
set_option maxRecDepth 100000 in
set_option maxHeartbeats 4000000 in
theorem kX9_pop_w (F : zF p s m args meth c cX9_pop 1 RX9 (some .int)) {r : Int32} {h' : zH} (a0 : Option Nat) (h : zH) (hf : fX9_pop a0 h = some (r, h')) (H : Heap) (locs : List Loc) (ls : Array Slot) (hl : zhas ls 1 [(0, va_rf a0)]) (hW : z_W D base s h H) (hS : va_S (zA base) s.heap H locs) : W p l e rmX9_pop s m args below meth c H locs 0 0 (MQ below (zQ D base (some (.int r)) h') args s rmX9_pop.cells rmX9_pop.slots (zA base)) (F0 m 0 ls []) := by
  obtain ⟨hx, hb, hml, hown, hts, hret, hlk, hZ⟩ := id F
  unfold fX9_pop at hf
  refine zw_aload_n hx hb dX9_pop_0 rfl (lv_at hl.1 0 rfl) ?_
  obtain ⟨v1, e1, hf⟩ := ob hf
  refine zw_gI hx hb hts inX9 hown hW (ci := 9) rfl (by decide) 29 (by decide) (hts _ wd_618) e1 (fun _ _ => rfl) dX9_pop_1 ?_
  refine lv_if_ne (tgt := 9) hx hb dX9_pop_4 (by decide) (fun c2 => ?_) (fun c2 => ?_)
  · have hf := oiff c2 hf
    refine zw_aload_n hx hb dX9_pop_9 rfl (lv_at hl.1 0 rfl) ?_
    refine lv_dup hx hb dX9_pop_10 (va_rf_cat _) ?_
    obtain ⟨v3, e3, hf⟩ := ob hf
    refine zw_gI hx hb hts inX9 hown hW (ci := 9) rfl (by decide) 29 (by decide) (hts _ wd_618) e3 (fun _ _ => rfl) dX9_pop_11 ?_
    refine lv_iconst (v := 1) hx hb dX9_pop_14 (by decide) ?_
    refine lv_isub hx hb dX9_pop_15 ?_
    obtain ⟨h4, e4, hf⟩ := ob hf
    refine zw_pI hx hb hts inX9 tyX9 tyX9_ok nmX9 hown hW hS (ci := 9) rfl (by decide) 29 (by decide) (hts _ wd_618) (Or.inl rfl) (fun _ _ => rfl) rfl rfl e4 dX9_pop_16 (fun H locs hW hS => ?_)
    refine zw_aload_n hx hb dX9_pop_19 rfl (lv_at hl.1 0 rfl) ?_
    obtain ⟨v5, e5, hf⟩ := ob hf
    refine zw_gR hx hb hts inX9 hown hW (ci := 9) rfl (by decide) 28 (by decide) (hts _ wd_617) e5 (fun _ _ => rfl) dX9_pop_20 ?_
    refine zw_aload_n hx hb dX9_pop_23 rfl (lv_at hl.1 0 rfl) ?_
    obtain ⟨v6, e6, hf⟩ := ob hf
    refine zw_gR hx hb hts inX9 hown hW (ci := 9) rfl (by decide) 9 (by decide) (hts _ wd_598) e6 (fun _ _ => rfl) dX9_pop_24 ?_
    refine zw_aload_n hx hb dX9_pop_27 rfl (lv_at hl.1 0 rfl) ?_
    obtain ⟨v7, e7, hf⟩ := ob hf
    refine zw_gI hx hb hts inX9 hown hW (ci := 9) rfl (by decide) 30 (by decide) (hts _ wd_619) e7 (fun _ _ => rfl) dX9_pop_28 ?_
    obtain ⟨v8, e8, hf⟩ := ob hf
    refine zw_aI hx hb hW e8 dX9_pop_31 ?_
    refine zw_aload_n hx hb dX9_pop_32 rfl (lv_at hl.1 0 rfl) ?_
    obtain ⟨v9, e9, hf⟩ := ob hf
    refine zw_gI hx hb hts inX9 hown hW (ci := 9) rfl (by decide) 29 (by decide) (hts _ wd_618) e9 (fun _ _ => rfl) dX9_pop_33 ?_
    refine lv_iadd hx hb dX9_pop_36 ?_
    obtain ⟨v10, e10, hf⟩ := ob hf
    refine zw_aI hx hb hW e10 dX9_pop_37 ?_
    obtain ⟨rfl, rfl⟩ := oret hf
    exact zw_ireturn F hW hS dX9_pop_38
  · have hf := oift c2 hf
    refine lv_iconst (v := (-1)) hx hb dX9_pop_7 (by decide) ?_
    obtain ⟨rfl, rfl⟩ := oret hf
    exact zw_ireturn F hW hS dX9_pop_8
set_option maxRecDepth 100000 in
set_option maxHeartbeats 4000000 in
theorem kX9_pop (l : Launch) (D : va_G) (base : Nat) (a0 : Option Nat) (h : zH) {r : Int32} {h' : zH} (hf : fX9_pop a0 h = some (r, h')) : zMet l D base yX9_pop cX9_pop 1 (some .int) rmX9_pop h [va_rf a0] (some (.int r)) h' :=
  zMet.of (by decide +kernel) (fun v hv => by simp only [List.mem_cons, List.not_mem_nil, or_false] at hv; subst hv; first | rfl | exact va_rf_cat _) (Nat.le_of_ble_eq_true rfl) (fun p e s m args below meth c ls F hi hl hW hS => kX9_pop_w F a0 h hf s.heap [] ls hl hW hS)
set_option maxRecDepth 100000 in
set_option maxHeartbeats 4000000 in
theorem kX9_popInto_w (N : Nat) (F : zF p s m args meth c cX9_popInto 3 RX9 (some .boolean)) {r : Int32} {h' : zH} (a0 : Option Nat) (a1 : Int32) (h : zH) (hf : fX9_popInto N a0 a1 h = some (r, h')) (H : Heap) (locs : List Loc) (ls : Array Slot) (hl : zhas ls 3 [(0, va_rf a0), (1, .int a1)]) (hW : z_W D base s h H) (hS : va_S (zA base) s.heap H locs) : W p l e rmX9_popInto s m args below meth c H locs 0 0 (MQ below (zQ D base (some (.int r)) h') args s rmX9_popInto.cells rmX9_popInto.slots (zA base)) (F0 m 0 ls []) := by
  obtain ⟨hx, hb, hml, hown, hts, hret, hlk, hZ⟩ := id F
  unfold fX9_popInto at hf
  refine zw_aload_n hx hb dX9_popInto_0 rfl (lv_at hl.1 0 rfl) ?_
  obtain ⟨a901, j1, hf⟩ := ob hf
  obtain ⟨q1, e1, hf⟩ := ob hf
  refine zw_callV (rest := []) (n := 0) F (kX9_pop (r := q1.1) (h' := q1.2) l D base a0 h e1) 9 rfl (by decide) j1 wd_777 wd_779 ws_37 wd_6 wd_780 (by decide +kernel) ⟨by decide, by decide⟩ hW hS rfl hl.1.1 (by decide) rfl ⟨(by decide), (by decide)⟩ dX9_popInto_1 (fun H locs hW hS => ?_)
  refine W.eq (g2 := F0 m 4 ls [.int q1.1]) rfl ?_
  refine zl_istore_n (lv' := [(2, .int q1.1), (0, va_rf a0), (1, .int a1)]) hx hb dX9_popInto_4 rfl hl (by decide) rfl (fun ls hl => ?_)
  refine lv_iload_n hx hb dX9_popInto_5 rfl (lv_at hl.1 0 rfl) ?_
  refine lv_iconst (v := (-1)) hx hb dX9_popInto_6 (by decide) ?_
  refine lv_icmp_eq (tgt := 23) hx hb dX9_popInto_7 (by decide) (fun c2 => ?_) (fun c2 => ?_)
  · have hf := oift c2 hf
    refine lv_iconst (v := 0) hx hb dX9_popInto_23 (by decide) ?_
    obtain ⟨rfl, rfl⟩ := oret hf
    exact zw_zreturn F (by decide) hW hS dX9_popInto_24
  · have hf := oiff c2 hf
    refine zw_aload_n hx hb dX9_popInto_10 rfl (lv_at hl.1 1 rfl) ?_
    refine lv_iload_n hx hb dX9_popInto_11 rfl (lv_at hl.1 0 rfl) ?_
    refine lv_iload_n hx hb dX9_popInto_12 rfl (lv_at hl.1 2 rfl) ?_
    obtain ⟨a903, j3, hf⟩ := ob hf
    obtain ⟨q3, e3, hf⟩ := ob hf
    refine zw_callV (rest := []) (n := 2) F (kX9_goes (r := q3.1) (h' := q3.2) l D base N a0 q1.1 a1 q1.2 e3) 9 rfl (by decide) j3 wd_793 wd_795 ws_41 wd_6 wd_796 (by decide +kernel) ⟨by decide, by decide⟩ hW hS rfl hl.1.1 (by decide) rfl ⟨(by decide), (by decide)⟩ dX9_popInto_13 (fun H locs hW hS => ?_)
    refine W.eq (g2 := F0 m 16 ls [.int q3.1]) rfl ?_
    refine lv_if_eq (tgt := 23) hx hb dX9_popInto_16 (by decide) (fun c4 => ?_) (fun c4 => ?_)
    · have hf := oift c4 hf
      refine lv_iconst (v := 0) hx hb dX9_popInto_23 (by decide) ?_
      obtain ⟨rfl, rfl⟩ := oret hf
      exact zw_zreturn F (by decide) hW hS dX9_popInto_24
    · have hf := oiff c4 hf
      refine lv_iconst (v := 1) hx hb dX9_popInto_19 (by decide) ?_
      refine lv_goto (tgt := 24) hx hb dX9_popInto_20 (by decide) ?_
      obtain ⟨rfl, rfl⟩ := oret hf
      exact zw_zreturn F (by decide) hW hS dX9_popInto_24
set_option maxRecDepth 100000 in
set_option maxHeartbeats 4000000 in
theorem kX9_popInto (l : Launch) (D : va_G) (base : Nat) (N : Nat) (a0 : Option Nat) (a1 : Int32) (h : zH) {r : Int32} {h' : zH} (hf : fX9_popInto N a0 a1 h = some (r, h')) : zMet l D base yX9_popInto cX9_popInto 3 (some .boolean) rmX9_popInto h [va_rf a0, .int a1] (some (.int r)) h' :=
  zMet.of (by decide +kernel) (fun v hv => by simp only [List.mem_cons, List.not_mem_nil, or_false] at hv; rcases hv with rfl | rfl <;> first | rfl | exact va_rf_cat _) (Nat.le_of_ble_eq_true rfl) (fun p e s m args below meth c ls F hi hl hW hS => kX9_popInto_w N F a0 a1 h hf s.heap [] ls hl hW hS)
set_option maxRecDepth 100000 in
set_option maxHeartbeats 4000000 in
theorem kX9_popReference_w (F : zF p s m args meth c cX9_popReference 2 RX9 (some .boolean)) {r : Int32} {h' : zH} (a0 : Option Nat) (h : zH) (hf : fX9_popReference a0 h = some (r, h')) (H : Heap) (locs : List Loc) (ls : Array Slot) (hl : zhas ls 2 [(0, va_rf a0)]) (hW : z_W D base s h H) (hS : va_S (zA base) s.heap H locs) : W p l e rmX9_popReference s m args below meth c H locs 0 0 (MQ below (zQ D base (some (.int r)) h') args s rmX9_popReference.cells rmX9_popReference.slots (zA base)) (F0 m 0 ls []) := by
  obtain ⟨hx, hb, hml, hown, hts, hret, hlk, hZ⟩ := id F
  unfold fX9_popReference at hf
  refine zw_aload_n hx hb dX9_popReference_0 rfl (lv_at hl.1 0 rfl) ?_
  obtain ⟨a901, j1, hf⟩ := ob hf
  obtain ⟨q1, e1, hf⟩ := ob hf
  refine zw_callV (rest := []) (n := 0) F (kX9_pop (r := q1.1) (h' := q1.2) l D base a0 h e1) 9 rfl (by decide) j1 wd_777 wd_779 ws_37 wd_6 wd_780 (by decide +kernel) ⟨by decide, by decide⟩ hW hS rfl hl.1.1 (by decide) rfl ⟨(by decide), (by decide)⟩ dX9_popReference_1 (fun H locs hW hS => ?_)
  refine W.eq (g2 := F0 m 4 ls [.int q1.1]) rfl ?_
  refine zl_istore_n (lv' := [(1, .int q1.1), (0, va_rf a0)]) hx hb dX9_popReference_4 rfl hl (by decide) rfl (fun ls hl => ?_)
  refine lv_iload_n hx hb dX9_popReference_5 rfl (lv_at hl.1 0 rfl) ?_
  refine lv_iconst (v := (-1)) hx hb dX9_popReference_6 (by decide) ?_
  refine lv_icmp_eq (tgt := 21) hx hb dX9_popReference_7 (by decide) (fun c2 => ?_) (fun c2 => ?_)
  · have hf := oift c2 hf
    refine lv_iconst (v := 0) hx hb dX9_popReference_21 (by decide) ?_
    obtain ⟨rfl, rfl⟩ := oret hf
    exact zw_zreturn F (by decide) hW hS dX9_popReference_22
  · have hf := oiff c2 hf
    refine lv_iload_n hx hb dX9_popReference_10 rfl (lv_at hl.1 0 rfl) ?_
    obtain ⟨q3, e3, hf⟩ := ob hf
    refine zw_callS (rest := []) (n := 1) F (kX9_isReference (r := q3.1) (h' := q3.2) l D base q1.1 q1.2 e3) wd_747 wd_748 wd_6 wd_749 (by decide +kernel) ⟨by decide, by decide⟩ hW hS rfl hl.1.1 (by decide) rfl ⟨(by decide), (by decide)⟩ dX9_popReference_11 (fun H locs hW hS => ?_)
    refine W.eq (g2 := F0 m 14 ls [.int q3.1]) rfl ?_
    refine lv_if_eq (tgt := 21) hx hb dX9_popReference_14 (by decide) (fun c4 => ?_) (fun c4 => ?_)
    · have hf := oift c4 hf
      refine lv_iconst (v := 0) hx hb dX9_popReference_21 (by decide) ?_
      obtain ⟨rfl, rfl⟩ := oret hf
      exact zw_zreturn F (by decide) hW hS dX9_popReference_22
    · have hf := oiff c4 hf
      refine lv_iconst (v := 1) hx hb dX9_popReference_17 (by decide) ?_
      refine lv_goto (tgt := 22) hx hb dX9_popReference_18 (by decide) ?_
      obtain ⟨rfl, rfl⟩ := oret hf
      exact zw_zreturn F (by decide) hW hS dX9_popReference_22
set_option maxRecDepth 100000 in
set_option maxHeartbeats 4000000 in
theorem kX9_popReference (l : Launch) (D : va_G) (base : Nat) (a0 : Option Nat) (h : zH) {r : Int32} {h' : zH} (hf : fX9_popReference a0 h = some (r, h')) : zMet l D base yX9_popReference cX9_popReference 2 (some .boolean) rmX9_popReference h [va_rf a0] (some (.int r)) h' :=
  zMet.of (by decide +kernel) (fun v hv => by simp only [List.mem_cons, List.not_mem_nil, or_false] at hv; subst hv; first | rfl | exact va_rf_cat _) (Nat.le_of_ble_eq_true rfl) (fun p e s m args below meth c ls F hi hl hW hS => kX9_popReference_w F a0 h hf s.heap [] ls hl hW hS)
set_option maxRecDepth 100000 in
set_option maxHeartbeats 4000000 in
theorem kX9_ints_b2 (N : Nat) {r : Int32} {h' : zH} (F : zF p s m args meth c cX9_ints 3 RX9 (some .boolean)) : ∀ (n : Nat) (l0 : Option Nat) (l1 : Int32) (l2 : Int32) (h : zH), fX9_ints_b2 N n l0 l1 l2 h = some (r, h') → ∀ (H : Heap) (locs : List Loc) (ls : Array Slot), zhas ls 3 [(0, va_rf l0), (1, .int l1), (2, .int l2)] → z_W D base s h H → va_S (zA base) s.heap H locs → W p l e rmX9_ints s m args below meth c H locs 0 0 (MQ below (zQ D base (some (.int r)) h') args s rmX9_ints.cells rmX9_ints.slots (zA base)) (F0 m 2 ls []) := by
  obtain ⟨hx, hb, hml, hown, hts, hret, hlk, hZ⟩ := id F
  intro n
  induction n with
  | zero =>
    intro l0 l1 l2 h hf
    rw [fX9_ints_b2] at hf
    cases hf
  | succ n ih =>
    intro l0 l1 l2 h hf H locs ls hl hW hS
    rw [fX9_ints_b2] at hf
    refine lv_iload_n hx hb dX9_ints_2 rfl (lv_at hl.1 2 rfl) ?_
    refine lv_iload_n hx hb dX9_ints_3 rfl (lv_at hl.1 1 rfl) ?_
    refine lv_icmp_ge (tgt := 22) hx hb dX9_ints_4 (by decide) (fun c1 => ?_) (fun c1 => ?_)
    · have hf := oift c1 hf
      refine lv_iconst (v := 1) hx hb dX9_ints_22 (by decide) ?_
      obtain ⟨rfl, rfl⟩ := oret hf
      exact zw_zreturn F (by decide) hW hS dX9_ints_23
    · have hf := oiff c1 hf
      refine zw_aload_n hx hb dX9_ints_7 rfl (lv_at hl.1 0 rfl) ?_
      obtain ⟨a902, j2, hf⟩ := ob hf
      obtain ⟨q2, e2, hf⟩ := ob hf
      refine zw_callV (rest := []) (n := 0) F (kX9_pop (r := q2.1) (h' := q2.2) l D base l0 h e2) 9 rfl (by decide) j2 wd_777 wd_779 ws_37 wd_6 wd_780 (by decide +kernel) ⟨by decide, by decide⟩ hW hS rfl hl.1.1 (by decide) rfl ⟨(by decide), (by decide)⟩ dX9_ints_8 (fun H locs hW hS => ?_)
      refine W.eq (g2 := F0 m 11 ls [.int q2.1]) rfl ?_
      refine lv_if_eq (tgt := 16) hx hb dX9_ints_11 (by decide) (fun c3 => ?_) (fun c3 => ?_)
      · have hf := oift c3 hf
        refine zl_iinc (v := (l2 + 1)) (lv' := [(2, .int (l2 + 1)), (0, va_rf l0), (1, .int l1)]) hx hb dX9_ints_16 hl (k := 2) rfl rfl (by decide) rfl (fun ls hl => ?_)
        refine lv_goto (tgt := 2) hx hb dX9_ints_19 (by decide) ?_
        exact ih l0 l1 (l2 + 1) q2.2 hf H locs ls (z_sub hl [1, 2, 0] rfl) hW hS
      · have hf := oiff c3 hf
        refine lv_iconst (v := 0) hx hb dX9_ints_14 (by decide) ?_
        obtain ⟨rfl, rfl⟩ := oret hf
        exact zw_zreturn F (by decide) hW hS dX9_ints_15
set_option maxRecDepth 100000 in
set_option maxHeartbeats 4000000 in
theorem kX9_ints_w (N : Nat) (F : zF p s m args meth c cX9_ints 3 RX9 (some .boolean)) {r : Int32} {h' : zH} (a0 : Option Nat) (a1 : Int32) (h : zH) (hf : fX9_ints N a0 a1 h = some (r, h')) (H : Heap) (locs : List Loc) (ls : Array Slot) (hl : zhas ls 3 [(0, va_rf a0), (1, .int a1)]) (hW : z_W D base s h H) (hS : va_S (zA base) s.heap H locs) : W p l e rmX9_ints s m args below meth c H locs 0 0 (MQ below (zQ D base (some (.int r)) h') args s rmX9_ints.cells rmX9_ints.slots (zA base)) (F0 m 0 ls []) := by
  obtain ⟨hx, hb, hml, hown, hts, hret, hlk, hZ⟩ := id F
  unfold fX9_ints at hf
  refine lv_iconst (v := 0) hx hb dX9_ints_0 (by decide) ?_
  refine zl_istore_n (lv' := [(2, .int 0), (0, va_rf a0), (1, .int a1)]) hx hb dX9_ints_1 rfl hl (by decide) rfl (fun ls hl => ?_)
  exact kX9_ints_b2 N F N a0 a1 0 h hf H locs ls (z_sub hl [1, 2, 0] rfl) hW hS
set_option maxRecDepth 100000 in
set_option maxHeartbeats 4000000 in
theorem kX9_ints (l : Launch) (D : va_G) (base : Nat) (N : Nat) (a0 : Option Nat) (a1 : Int32) (h : zH) {r : Int32} {h' : zH} (hf : fX9_ints N a0 a1 h = some (r, h')) : zMet l D base yX9_ints cX9_ints 3 (some .boolean) rmX9_ints h [va_rf a0, .int a1] (some (.int r)) h' :=
  zMet.of (by decide +kernel) (fun v hv => by simp only [List.mem_cons, List.not_mem_nil, or_false] at hv; rcases hv with rfl | rfl <;> first | rfl | exact va_rf_cat _) (Nat.le_of_ble_eq_true rfl) (fun p e s m args below meth c ls F hi hl hW hS => kX9_ints_w N F a0 a1 h hf s.heap [] ls hl hW hS)
set_option maxRecDepth 100000 in
set_option maxHeartbeats 4000000 in
theorem kX9_parameters_b9 (N : Nat) {r : Int32} {h' : zH} (F : zF p s m args meth c cX9_parameters 4 RX9 (some .boolean)) : ∀ (n : Nat) (l0 : Option Nat) (l1 : Int32) (l2 : Int32) (l3 : Int32) (h : zH), fX9_parameters_b9 N n l0 l1 l2 l3 h = some (r, h') → ∀ (H : Heap) (locs : List Loc) (ls : Array Slot), zhas ls 4 [(0, va_rf l0), (1, .int l1), (2, .int l2), (3, .int l3)] → z_W D base s h H → va_S (zA base) s.heap H locs → W p l e rmX9_parameters s m args below meth c H locs 0 0 (MQ below (zQ D base (some (.int r)) h') args s rmX9_parameters.cells rmX9_parameters.slots (zA base)) (F0 m 9 ls []) := by
  obtain ⟨hx, hb, hml, hown, hts, hret, hlk, hZ⟩ := id F
  intro n
  induction n with
  | zero =>
    intro l0 l1 l2 l3 h hf
    rw [fX9_parameters_b9] at hf
    cases hf
  | succ n ih =>
    intro l0 l1 l2 l3 h hf H locs ls hl hW hS
    rw [fX9_parameters_b9] at hf
    refine lv_iload_n hx hb dX9_parameters_9 rfl (lv_at hl.1 3 rfl) ?_
    refine lv_iload_n hx hb dX9_parameters_10 rfl (lv_at hl.1 2 rfl) ?_
    refine lv_icmp_lt (tgt := 40) hx hb dX9_parameters_11 (by decide) (fun c1 => ?_) (fun c1 => ?_)
    · have hf := oift c1 hf
      refine lv_iconst (v := 1) hx hb dX9_parameters_40 (by decide) ?_
      obtain ⟨rfl, rfl⟩ := oret hf
      exact zw_zreturn F (by decide) hW hS dX9_parameters_41
    · have hf := oiff c1 hf
      refine zw_aload_n hx hb dX9_parameters_14 rfl (lv_at hl.1 0 rfl) ?_
      refine zw_aload_n hx hb dX9_parameters_15 rfl (lv_at hl.1 0 rfl) ?_
      obtain ⟨v2, e2, hf⟩ := ob hf
      refine zw_gR hx hb hts inX9 hown hW (ci := 9) rfl (by decide) 12 (by decide) (hts _ wd_601) e2 (fun _ _ => rfl) dX9_parameters_16 ?_
      refine lv_bipush (v := 8) hx hb dX9_parameters_19 (by decide) ?_
      refine lv_iload_n hx hb dX9_parameters_21 rfl (lv_at hl.1 1 rfl) ?_
      refine lv_imul hx hb dX9_parameters_22 ?_
      refine lv_iload_n hx hb dX9_parameters_23 rfl (lv_at hl.1 3 rfl) ?_
      refine lv_iadd hx hb dX9_parameters_24 ?_
      obtain ⟨v3, e3, hf⟩ := ob hf
      refine zw_aI hx hb hW e3 dX9_parameters_25 ?_
      obtain ⟨a904, j4, hf⟩ := ob hf
      obtain ⟨q4, e4, hf⟩ := ob hf
      refine zw_callV (rest := []) (n := 1) F (kX9_popInto (r := q4.1) (h' := q4.2) l D base N l0 v3 h e4) 9 rfl (by decide) j4 wd_789 wd_791 ws_40 wd_6 wd_792 (by decide +kernel) ⟨by decide, by decide⟩ hW hS rfl hl.1.1 (by decide) rfl ⟨(by decide), (by decide)⟩ dX9_parameters_26 (fun H locs hW hS => ?_)
      refine W.eq (g2 := F0 m 29 ls [.int q4.1]) rfl ?_
      refine lv_if_ne (tgt := 34) hx hb dX9_parameters_29 (by decide) (fun c5 => ?_) (fun c5 => ?_)
      · have hf := oiff c5 hf
        refine zl_iinc (v := (l3 + (-1))) (lv' := [(3, .int (l3 + (-1))), (0, va_rf l0), (1, .int l1), (2, .int l2)]) hx hb dX9_parameters_34 hl (k := 3) rfl rfl (by decide) rfl (fun ls hl => ?_)
        refine lv_goto (tgt := 9) hx hb dX9_parameters_37 (by decide) ?_
        exact ih l0 l1 l2 (l3 + (-1)) q4.2 hf H locs ls (z_sub hl [1, 2, 3, 0] rfl) hW hS
      · have hf := oift c5 hf
        refine lv_iconst (v := 0) hx hb dX9_parameters_32 (by decide) ?_
        obtain ⟨rfl, rfl⟩ := oret hf
        exact zw_zreturn F (by decide) hW hS dX9_parameters_33
set_option maxRecDepth 100000 in
set_option maxHeartbeats 4000000 in
theorem kX9_parameters_w (N : Nat) (F : zF p s m args meth c cX9_parameters 4 RX9 (some .boolean)) {r : Int32} {h' : zH} (a0 : Option Nat) (a1 : Int32) (a2 : Int32) (h : zH) (hf : fX9_parameters N a0 a1 a2 h = some (r, h')) (H : Heap) (locs : List Loc) (ls : Array Slot) (hl : zhas ls 4 [(0, va_rf a0), (1, .int a1), (2, .int a2)]) (hW : z_W D base s h H) (hS : va_S (zA base) s.heap H locs) : W p l e rmX9_parameters s m args below meth c H locs 0 0 (MQ below (zQ D base (some (.int r)) h') args s rmX9_parameters.cells rmX9_parameters.slots (zA base)) (F0 m 0 ls []) := by
  obtain ⟨hx, hb, hml, hown, hts, hret, hlk, hZ⟩ := id F
  unfold fX9_parameters at hf
  refine zw_aload_n hx hb dX9_parameters_0 rfl (lv_at hl.1 0 rfl) ?_
  obtain ⟨v1, e1, hf⟩ := ob hf
  refine zw_gR hx hb hts inX9 hown hW (ci := 9) rfl (by decide) 11 (by decide) (hts _ wd_600) e1 (fun _ _ => rfl) dX9_parameters_1 ?_
  refine lv_iload_n hx hb dX9_parameters_4 rfl (lv_at hl.1 1 rfl) ?_
  obtain ⟨v2, e2, hf⟩ := ob hf
  refine zw_aI hx hb hW e2 dX9_parameters_5 ?_
  refine lv_iconst (v := 1) hx hb dX9_parameters_6 (by decide) ?_
  refine lv_isub hx hb dX9_parameters_7 ?_
  refine zl_istore_n (lv' := [(3, .int (v2 - 1)), (0, va_rf a0), (1, .int a1), (2, .int a2)]) hx hb dX9_parameters_8 rfl hl (by decide) rfl (fun ls hl => ?_)
  exact kX9_parameters_b9 N F N a0 a1 a2 (v2 - 1) h hf H locs ls (z_sub hl [1, 2, 3, 0] rfl) hW hS
set_option maxRecDepth 100000 in
set_option maxHeartbeats 4000000 in
theorem kX9_parameters (l : Launch) (D : va_G) (base : Nat) (N : Nat) (a0 : Option Nat) (a1 : Int32) (a2 : Int32) (h : zH) {r : Int32} {h' : zH} (hf : fX9_parameters N a0 a1 a2 h = some (r, h')) : zMet l D base yX9_parameters cX9_parameters 4 (some .boolean) rmX9_parameters h [va_rf a0, .int a1, .int a2] (some (.int r)) h' :=
  zMet.of (by decide +kernel) (fun v hv => by simp only [List.mem_cons, List.not_mem_nil, or_false] at hv; rcases hv with rfl | rfl | rfl <;> first | rfl | exact va_rf_cat _) (Nat.le_of_ble_eq_true rfl) (fun p e s m args below meth c ls F hi hl hW hS => kX9_parameters_w N F a0 a1 a2 h hf s.heap [] ls hl hW hS)
set_option maxRecDepth 100000 in
set_option maxHeartbeats 4000000 in
theorem kX9_given_b22 {r : Int32} {h' : zH} (F : zF p s m args meth c cX9_given 2 RX9 (some .boolean))  (h : zH) (hf : fX9_given_b22  h = some (r, h')) (H : Heap) (locs : List Loc) (ls : Array Slot) (hl : zhas ls 2 []) (hW : z_W D base s h H) (hS : va_S (zA base) s.heap H locs) : W p l e rmX9_given s m args below meth c H locs 0 0 (MQ below (zQ D base (some (.int r)) h') args s rmX9_given.cells rmX9_given.slots (zA base)) (F0 m 22 ls []) := by
  obtain ⟨hx, hb, hml, hown, hts, hret, hlk, hZ⟩ := id F
  unfold fX9_given_b22 at hf
  refine lv_iconst (v := 1) hx hb dX9_given_22 (by decide) ?_
  refine lv_goto (tgt := 27) hx hb dX9_given_23 (by decide) ?_
  obtain ⟨rfl, rfl⟩ := oret hf
  exact zw_zreturn F (by decide) hW hS dX9_given_27
set_option maxRecDepth 100000 in
set_option maxHeartbeats 4000000 in
theorem kX9_given_w (F : zF p s m args meth c cX9_given 2 RX9 (some .boolean)) {r : Int32} {h' : zH} (a0 : Option Nat) (a1 : Int32) (h : zH) (hf : fX9_given a0 a1 h = some (r, h')) (H : Heap) (locs : List Loc) (ls : Array Slot) (hl : zhas ls 2 [(0, va_rf a0), (1, .int a1)]) (hW : z_W D base s h H) (hS : va_S (zA base) s.heap H locs) : W p l e rmX9_given s m args below meth c H locs 0 0 (MQ below (zQ D base (some (.int r)) h') args s rmX9_given.cells rmX9_given.slots (zA base)) (F0 m 0 ls []) := by
  obtain ⟨hx, hb, hml, hown, hts, hret, hlk, hZ⟩ := id F
  unfold fX9_given at hf
  refine zw_aload_n hx hb dX9_given_0 rfl (lv_at hl.1 0 rfl) ?_
  obtain ⟨v1, e1, hf⟩ := ob hf
  refine zw_gR hx hb hts inX9 hown hW (ci := 9) rfl (by decide) 8 (by decide) (hts _ wd_597) e1 (fun _ _ => rfl) dX9_given_1 ?_
  refine lv_iload_n hx hb dX9_given_4 rfl (lv_at hl.1 1 rfl) ?_
  obtain ⟨v2, e2, hf⟩ := ob hf
  refine zw_aI hx hb hW e2 dX9_given_5 ?_
  refine lv_if_lt (tgt := 22) hx hb dX9_given_6 (by decide) (fun c3 => ?_) (fun c3 => ?_)
  · have hf := oift c3 hf
    exact kX9_given_b22 F h hf H locs ls (z_sub hl [] rfl) hW hS
  · have hf := oiff c3 hf
    refine zw_aload_n hx hb dX9_given_9 rfl (lv_at hl.1 0 rfl) ?_
    refine zw_aload_n hx hb dX9_given_10 rfl (lv_at hl.1 0 rfl) ?_
    obtain ⟨v4, e4, hf⟩ := ob hf
    refine zw_gR hx hb hts inX9 hown hW (ci := 9) rfl (by decide) 8 (by decide) (hts _ wd_597) e4 (fun _ _ => rfl) dX9_given_11 ?_
    refine lv_iload_n hx hb dX9_given_14 rfl (lv_at hl.1 1 rfl) ?_
    obtain ⟨v5, e5, hf⟩ := ob hf
    refine zw_aI hx hb hW e5 dX9_given_15 ?_
    obtain ⟨a906, j6, hf⟩ := ob hf
    obtain ⟨q6, e6, hf⟩ := ob hf
    refine zw_callV (rest := []) (n := 1) F (kX9_push (r := q6.1) (h' := q6.2) l D base a0 v5 h e6) 9 rfl (by decide) j6 wd_765 wd_767 ws_34 wd_6 wd_768 (by decide +kernel) ⟨by decide, by decide⟩ hW hS rfl hl.1.1 (by decide) rfl ⟨(by decide), (by decide)⟩ dX9_given_16 (fun H locs hW hS => ?_)
    refine W.eq (g2 := F0 m 19 ls [.int q6.1]) rfl ?_
    refine lv_if_eq (tgt := 26) hx hb dX9_given_19 (by decide) (fun c7 => ?_) (fun c7 => ?_)
    · have hf := oift c7 hf
      refine lv_iconst (v := 0) hx hb dX9_given_26 (by decide) ?_
      obtain ⟨rfl, rfl⟩ := oret hf
      exact zw_zreturn F (by decide) hW hS dX9_given_27
    · have hf := oiff c7 hf
      exact kX9_given_b22 F q6.2 hf H locs ls (z_sub hl [] rfl) hW hS
set_option maxRecDepth 100000 in
set_option maxHeartbeats 4000000 in
theorem kX9_given (l : Launch) (D : va_G) (base : Nat) (a0 : Option Nat) (a1 : Int32) (h : zH) {r : Int32} {h' : zH} (hf : fX9_given a0 a1 h = some (r, h')) : zMet l D base yX9_given cX9_given 2 (some .boolean) rmX9_given h [va_rf a0, .int a1] (some (.int r)) h' :=
  zMet.of (by decide +kernel) (fun v hv => by simp only [List.mem_cons, List.not_mem_nil, or_false] at hv; rcases hv with rfl | rfl <;> first | rfl | exact va_rf_cat _) (Nat.le_of_ble_eq_true rfl) (fun p e s m args below meth c ls F hi hl hW hS => kX9_given_w F a0 a1 h hf s.heap [] ls hl hW hS)
end
