section
variable {p : Program} {l : Launch} {e : Env} {s : State} {m : MethodId} {below : List Frame} {meth : Method} {c : Code} {D : va_G} {b L : Nat} {xs : Nat → Int32}
theorem aS_spec {i v : Int32} (h : aS L xs i = some v) : vp_in i L ∧ xs i.toNatClampNeg = v := by
  unfold aS at h
  split at h
  · next q => exact ⟨q, Option.some.inj h⟩
  · cases h
theorem zw_sld {R : Room} {args : Array Value} {H : Heap} {locs : List Loc} {cells slots : Nat} {Q : State → Prop} {cc : ByteArray} {pc : Nat} {ls : Array Slot} {rest : List Value} {A : Nat → Prop} {H0 : Heap} (hx : p.tables.exec = Jvm.exec) (hb : c.code = cc) (hX : va_X b L xs s H0) (hbl : b < H0.size) (hbA : ¬ A b) (hS : va_S A H0 H locs) {i v : Int32} (he : aS L xs i = some v) (hdg : decode cc pc = .ok (.iaload, 1))
    (kk : W p l e R s m args below meth c H locs cells slots Q (F0 m (pc + 1) ls (.int v :: rest))) : W p l e R s m args below meth c H locs cells slots Q (F0 m pc ls (.int i :: va_rf (some b) :: rest)) := by
  obtain ⟨h1, rfl⟩ := aS_spec he
  exact va_sld hx hb hX hbl hbA hS h1 hdg kk
theorem zw_lawend {H : Heap} {locs : List Loc} {cells slots : Nat} {pc : Nat} {ls : Array Slot} (F : zF p s m #[Value.ref b] meth c cL_law 4 RL ret) (hS : va_S (zA s.heap.size) s.heap H locs) (h1 : cells ≤ 600000) (h2 : slots ≤ 7302249) (hdg : decode cL_law pc = .ok (.ireturn, 1)) : W p l e room_1 s m #[Value.ref b] below meth c H locs cells slots (lw_Z below #[Value.ref b] s) (F0 m pc ls [.int 1]) := by
  obtain ⟨hx, hb, hml, hown, hts, hret, hlk, hZ⟩ := F
  refine va_forget hS.2.2 ?_
  refine W.widen (k := 600000) (n := 7302249) h1 h2 ?_
  exact lw_ret hx hb hret hlk hdg
set_option maxRecDepth 100000 in
set_option maxHeartbeats 4000000 in
theorem kL_law_b468 (C0 : lw_At p s m meth c b L xs) (F : zF p s m #[Value.ref b] meth c cL_law 4 RL ret) (cells slots : Nat) (k18 : Option Nat → Option Nat → Int32 → zH → Option (Int32 × zH)) {h' : zH} (hk18 : ∀ (l1 l2 : Option Nat) (l3 : Int32) (h : zH), k18 l1 l2 l3 h = some (1, h') → ∀ (H : Heap) (locs : List Loc) (ls : Array Slot), zhas ls 4 [(0, va_rf (some b)), (1, va_rf l1), (2, va_rf l2), (3, .int l3)] → z_W D s.heap.size s h H → va_S (zA s.heap.size) s.heap H locs → W p l e room_1 s m #[Value.ref b] below meth c H locs (cells + 8) (slots + 256) (lw_Z below #[Value.ref b] s) (F0 m 18 ls [])) (l1 l2 : Option Nat) (l3 : Int32) (h : zH) (hf : fL_law_b468 k18 l1 l2 l3 h = some (1, h')) (H : Heap) (locs : List Loc) (ls : Array Slot) (hl : zhas ls 4 [(0, va_rf (some b)), (1, va_rf l1), (2, va_rf l2), (3, .int l3)]) (hW : z_W D s.heap.size s h H) (hS : va_S (zA s.heap.size) s.heap H locs) : W p l e room_1 s m #[Value.ref b] below meth c H locs (cells + 8) (slots + 256) (lw_Z below #[Value.ref b] s) (F0 m 468 ls []) := by
  obtain ⟨hx, hb, hml, hown, hts, hret, hlk, hZ⟩ := id F
  obtain ⟨-, -, -, -, -, -, hX, hbl, -, -⟩ := id C0
  have hbA : ¬ (zA s.heap.size) b := Nat.not_le.mpr hbl
  unfold fL_law_b468 at hf
  refine zl_iinc (v := (l3 + 6)) (lv' := [(3, .int (l3 + 6)), (0, va_rf (some b)), (1, va_rf l1), (2, va_rf l2)]) hx hb dL_law_468 hl (k := 3) rfl rfl (by decide) rfl (fun ls hl => ?_)
  refine lv_goto (tgt := 18) hx hb dL_law_471 (by decide) ?_
  exact hk18 l1 l2 (l3 + 6) h hf H locs ls (z_sub hl [1, 2, 3, 0] rfl) hW hS
set_option maxRecDepth 100000 in
set_option maxHeartbeats 4000000 in
theorem kL_law_b18 (N : Nat) (C0 : lw_At p s m meth c b L xs) (F : zF p s m #[Value.ref b] meth c cL_law 4 RL ret) {h' : zH} : ∀ (n cells slots : Nat) (l1 l2 : Option Nat) (l3 : Int32) (h : zH), cells + 8 * n ≤ 600000 → slots + 256 * n ≤ 7302249 → fL_law_b18 N L xs n l1 l2 l3 h = some (1, h') → ∀ (H : Heap) (locs : List Loc) (ls : Array Slot), zhas ls 4 [(0, va_rf (some b)), (1, va_rf l1), (2, va_rf l2), (3, .int l3)] → z_W D s.heap.size s h H → va_S (zA s.heap.size) s.heap H locs → W p l e room_1 s m #[Value.ref b] below meth c H locs cells slots (lw_Z below #[Value.ref b] s) (F0 m 18 ls []) := by
  obtain ⟨hx, hb, hml, hown, hts, hret, hlk, hZ⟩ := id F
  obtain ⟨-, -, -, -, -, -, hX, hbl, -, -⟩ := id C0
  have hbA : ¬ (zA s.heap.size) b := Nat.not_le.mpr hbl
  intro n
  induction n with
  | zero =>
    intro cells slots l1 l2 l3 h hcc hss hf
    rw [fL_law_b18] at hf
    cases hf
  | succ n ih =>
    intro cells slots l1 l2 l3 h hcc hss hf H locs ls hl hW hS
    rw [fL_law_b18] at hf
    refine lv_iload_n hx hb dL_law_18 rfl (lv_at hl.1 3 rfl) ?_
    refine zw_aload_n hx hb dL_law_19 rfl (lv_at hl.1 0 rfl) ?_
    refine va_slen hx hb hX hbl hbA hS dL_law_20 ?_
    refine lv_bipush (v := 6) hx hb dL_law_21 (by decide) ?_
    refine lv_isub hx hb dL_law_23 ?_
    refine lv_icmp_gt (tgt := 474) hx hb dL_law_24 (by decide) (fun c1 => ?_) (fun c1 => ?_)
    · have hf := oift c1 hf
      refine lv_iconst (v := 1) hx hb dL_law_474 (by decide) ?_
      exact zw_lawend F hS (by show cells ≤ 600000; omega) (by show slots ≤ 7302249; omega) dL_law_475
    · have hf := oiff c1 hf
      refine zw_aload_n hx hb dL_law_27 rfl (lv_at hl.1 0 rfl) ?_
      refine lv_iload_n hx hb dL_law_28 rfl (lv_at hl.1 3 rfl) ?_
      obtain ⟨v2, e2, hf⟩ := ob hf
      refine zw_sld hx hb hX hbl hbA hS e2 dL_law_29 ?_
      refine lv_bipush (v := 15) hx hb dL_law_30 (by decide) ?_
      refine lv_iand hx hb dL_law_32 ?_
      by_cases c3 : (v2 &&& 15) = 0
      · have hf := oift c3 hf
        refine zl_tab hx hb (0) (55) (tgt := 88) dL_law_33 (by rw [c3]; decide) (by decide) ?_
        refine zw_aload_n hx hb dL_law_88 rfl (lv_at hl.1 1 rfl) ?_
        refine zw_aload_n hx hb dL_law_89 rfl (lv_at hl.1 0 rfl) ?_
        refine lv_iload_n hx hb dL_law_90 rfl (lv_at hl.1 3 rfl) ?_
        refine lv_iconst (v := 1) hx hb dL_law_91 (by decide) ?_
        refine lv_iadd hx hb dL_law_92 ?_
        obtain ⟨v4, e4, hf⟩ := ob hf
        refine zw_sld hx hb hX hbl hbA hS e4 dL_law_93 ?_
        obtain ⟨a905, j5, hf⟩ := ob hf
        obtain ⟨q5, e5, hf⟩ := ob hf
        refine zw_callV (rest := []) (n := 1) F (kX8_kind (r := q5.1) (h' := q5.2) l D s.heap.size N l1 v4 h e5) 8 rfl (by decide) j5 wd_116 wd_117 wd_118 wd_1 wd_119 (by decide +kernel) ⟨by decide, by decide⟩ hW hS rfl hl.1.1 (by decide) rfl ⟨(by show cells + 3 ≤ 600000; omega), (by show slots + 38 ≤ 7302249; omega)⟩ dL_law_94 (fun H locs hW hS => ?_)
        refine W.eq (g2 := F0 m 97 ls [.int q5.1]) rfl ?_
        refine zw_aload_n hx hb dL_law_97 rfl (lv_at hl.1 2 rfl) ?_
        refine zw_aload_n hx hb dL_law_98 rfl (lv_at hl.1 0 rfl) ?_
        refine lv_iload_n hx hb dL_law_99 rfl (lv_at hl.1 3 rfl) ?_
        refine lv_iconst (v := 1) hx hb dL_law_100 (by decide) ?_
        refine lv_iadd hx hb dL_law_101 ?_
        obtain ⟨v6, e6, hf⟩ := ob hf
        refine zw_sld hx hb hX hbl hbA hS e6 dL_law_102 ?_
        obtain ⟨a907, j7, hf⟩ := ob hf
        obtain ⟨q7, e7, hf⟩ := ob hf
        refine zw_callV (rest := [.int q5.1]) (n := 1) F (kX9_kind (r := q7.1) (h' := q7.2) l D s.heap.size N l2 v6 q5.2 e7) 9 rfl (by decide) j7 wd_687 wd_688 wd_689 wd_6 wd_690 (by decide +kernel) ⟨by decide, by decide⟩ hW hS rfl hl.1.1 (by simp only [List.map_cons, List.map_nil, va_rf_cat, z_icat, List.sum_cons, List.sum_nil]; decide) rfl ⟨(by show cells + 3 + 0 ≤ 600000; omega), (by show slots + 38 + 0 ≤ 7302249; omega)⟩ dL_law_103 (fun H locs hW hS => ?_)
        refine W.eq (g2 := F0 m 106 ls [.int q7.1, .int q5.1]) rfl ?_
        refine lv_icmp_eq (tgt := 468) hx hb dL_law_106 (by decide) (fun c8 => ?_) (fun c8 => ?_)
        · have hf := oift c8 hf
          refine W.widen (k := cells + 8) (n := slots + 256) (by show cells + 3 + 0 ≤ cells + 8; omega) (by show slots + 38 + 0 ≤ slots + 256; omega) ?_
          exact kL_law_b468 C0 F cells slots (fL_law_b18 N L xs n) (fun l1 l2 l3 h hf H locs ls hl hW hS => ih (cells + 8) (slots + 256) l1 l2 l3 h (by omega) (by omega) hf H locs ls hl hW hS) l1 l2 l3 q7.2 hf H locs ls (z_sub hl [0, 1, 2, 3] rfl) hW hS
        · have hf := oiff c8 hf
          refine lv_iconst (v := 0) hx hb dL_law_109 (by decide) ?_
          exact absurd (oret hf).1 (by decide)
      · have hf := oiff c3 hf
        by_cases c9 : (v2 &&& 15) = 1
        · have hf := oift c9 hf
          refine zl_tab hx hb (1) (78) (tgt := 111) dL_law_33 (by rw [c9]; decide) (by decide) ?_
          refine zw_aload_n hx hb dL_law_111 rfl (lv_at hl.1 1 rfl) ?_
          refine zw_aload_n hx hb dL_law_112 rfl (lv_at hl.1 0 rfl) ?_
          refine lv_iload_n hx hb dL_law_113 rfl (lv_at hl.1 3 rfl) ?_
          refine lv_iconst (v := 1) hx hb dL_law_114 (by decide) ?_
          refine lv_iadd hx hb dL_law_115 ?_
          obtain ⟨v10, e10, hf⟩ := ob hf
          refine zw_sld hx hb hX hbl hbA hS e10 dL_law_116 ?_
          refine zw_aload_n hx hb dL_law_117 rfl (lv_at hl.1 0 rfl) ?_
          refine lv_iload_n hx hb dL_law_118 rfl (lv_at hl.1 3 rfl) ?_
          refine lv_iconst (v := 2) hx hb dL_law_119 (by decide) ?_
          refine lv_iadd hx hb dL_law_120 ?_
          obtain ⟨v11, e11, hf⟩ := ob hf
          refine zw_sld hx hb hX hbl hbA hS e11 dL_law_121 ?_
          obtain ⟨a912, j12, hf⟩ := ob hf
          obtain ⟨q12, e12, hf⟩ := ob hf
          refine zw_callV (rest := []) (n := 2) F (kX8_field (r := q12.1) (h' := q12.2) l D s.heap.size l1 v10 v11 h e12) 8 rfl (by decide) j12 wd_163 wd_164 wd_165 wd_1 wd_166 (by decide +kernel) ⟨by decide, by decide⟩ hW hS rfl hl.1.1 (by decide) rfl ⟨(by show cells + 0 ≤ 600000; omega), (by show slots + 0 ≤ 7302249; omega)⟩ dL_law_122 (fun H locs hW hS => ?_)
          refine W.eq (g2 := F0 m 125 ls [.int q12.1]) rfl ?_
          refine zw_aload_n hx hb dL_law_125 rfl (lv_at hl.1 2 rfl) ?_
          refine zw_aload_n hx hb dL_law_126 rfl (lv_at hl.1 0 rfl) ?_
          refine lv_iload_n hx hb dL_law_127 rfl (lv_at hl.1 3 rfl) ?_
          refine lv_iconst (v := 1) hx hb dL_law_128 (by decide) ?_
          refine lv_iadd hx hb dL_law_129 ?_
          obtain ⟨v13, e13, hf⟩ := ob hf
          refine zw_sld hx hb hX hbl hbA hS e13 dL_law_130 ?_
          refine zw_aload_n hx hb dL_law_131 rfl (lv_at hl.1 0 rfl) ?_
          refine lv_iload_n hx hb dL_law_132 rfl (lv_at hl.1 3 rfl) ?_
          refine lv_iconst (v := 2) hx hb dL_law_133 (by decide) ?_
          refine lv_iadd hx hb dL_law_134 ?_
          obtain ⟨v14, e14, hf⟩ := ob hf
          refine zw_sld hx hb hX hbl hbA hS e14 dL_law_135 ?_
          obtain ⟨a915, j15, hf⟩ := ob hf
          obtain ⟨q15, e15, hf⟩ := ob hf
          refine zw_callV (rest := [.int q12.1]) (n := 2) F (kX9_field (r := q15.1) (h' := q15.2) l D s.heap.size l2 v13 v14 q12.2 e15) 9 rfl (by decide) j15 wd_695 wd_696 wd_697 wd_6 wd_698 (by decide +kernel) ⟨by decide, by decide⟩ hW hS rfl hl.1.1 (by simp only [List.map_cons, List.map_nil, va_rf_cat, z_icat, List.sum_cons, List.sum_nil]; decide) rfl ⟨(by show cells + 0 + 0 ≤ 600000; omega), (by show slots + 0 + 0 ≤ 7302249; omega)⟩ dL_law_136 (fun H locs hW hS => ?_)
          refine W.eq (g2 := F0 m 139 ls [.int q15.1, .int q12.1]) rfl ?_
          refine lv_icmp_eq (tgt := 468) hx hb dL_law_139 (by decide) (fun c16 => ?_) (fun c16 => ?_)
          · have hf := oift c16 hf
            refine W.widen (k := cells + 8) (n := slots + 256) (by show cells + 0 + 0 ≤ cells + 8; omega) (by show slots + 0 + 0 ≤ slots + 256; omega) ?_
            exact kL_law_b468 C0 F cells slots (fL_law_b18 N L xs n) (fun l1 l2 l3 h hf H locs ls hl hW hS => ih (cells + 8) (slots + 256) l1 l2 l3 h (by omega) (by omega) hf H locs ls hl hW hS) l1 l2 l3 q15.2 hf H locs ls (z_sub hl [0, 1, 2, 3] rfl) hW hS
          · have hf := oiff c16 hf
            refine lv_iconst (v := 0) hx hb dL_law_142 (by decide) ?_
            exact absurd (oret hf).1 (by decide)
        · have hf := oiff c9 hf
          by_cases c17 : (v2 &&& 15) = 2
          · have hf := oift c17 hf
            refine zl_tab hx hb (2) (111) (tgt := 144) dL_law_33 (by rw [c17]; decide) (by decide) ?_
            refine zw_aload_n hx hb dL_law_144 rfl (lv_at hl.1 1 rfl) ?_
            refine zw_aload_n hx hb dL_law_145 rfl (lv_at hl.1 0 rfl) ?_
            refine lv_iload_n hx hb dL_law_146 rfl (lv_at hl.1 3 rfl) ?_
            refine lv_iconst (v := 1) hx hb dL_law_147 (by decide) ?_
            refine lv_iadd hx hb dL_law_148 ?_
            obtain ⟨v18, e18, hf⟩ := ob hf
            refine zw_sld hx hb hX hbl hbA hS e18 dL_law_149 ?_
            refine zw_aload_n hx hb dL_law_150 rfl (lv_at hl.1 0 rfl) ?_
            refine lv_iload_n hx hb dL_law_151 rfl (lv_at hl.1 3 rfl) ?_
            refine lv_iconst (v := 2) hx hb dL_law_152 (by decide) ?_
            refine lv_iadd hx hb dL_law_153 ?_
            obtain ⟨v19, e19, hf⟩ := ob hf
            refine zw_sld hx hb hX hbl hbA hS e19 dL_law_154 ?_
            refine zw_aload_n hx hb dL_law_155 rfl (lv_at hl.1 0 rfl) ?_
            refine lv_iload_n hx hb dL_law_156 rfl (lv_at hl.1 3 rfl) ?_
            refine lv_iconst (v := 3) hx hb dL_law_157 (by decide) ?_
            refine lv_iadd hx hb dL_law_158 ?_
            obtain ⟨v20, e20, hf⟩ := ob hf
            refine zw_sld hx hb hX hbl hbA hS e20 dL_law_159 ?_
            refine zw_aload_n hx hb dL_law_160 rfl (lv_at hl.1 0 rfl) ?_
            refine lv_iload_n hx hb dL_law_161 rfl (lv_at hl.1 3 rfl) ?_
            refine lv_iconst (v := 4) hx hb dL_law_162 (by decide) ?_
            refine lv_iadd hx hb dL_law_163 ?_
            obtain ⟨v21, e21, hf⟩ := ob hf
            refine zw_sld hx hb hX hbl hbA hS e21 dL_law_164 ?_
            obtain ⟨a922, j22, hf⟩ := ob hf
            obtain ⟨q22, e22, hf⟩ := ob hf
            refine zw_callV (rest := []) (n := 4) F (kX8_method (r := q22.1) (h' := q22.2) l D s.heap.size l1 v18 v19 v20 v21 h e22) 8 rfl (by decide) j22 wd_185 wd_186 wd_187 wd_1 wd_188 (by decide +kernel) ⟨by decide, by decide⟩ hW hS rfl hl.1.1 (by decide) rfl ⟨(by show cells + 4 ≤ 600000; omega), (by show slots + 228 ≤ 7302249; omega)⟩ dL_law_165 (fun H locs hW hS => ?_)
            refine W.eq (g2 := F0 m 168 ls [.int q22.1]) rfl ?_
            refine zw_aload_n hx hb dL_law_168 rfl (lv_at hl.1 2 rfl) ?_
            refine zw_aload_n hx hb dL_law_169 rfl (lv_at hl.1 0 rfl) ?_
            refine lv_iload_n hx hb dL_law_170 rfl (lv_at hl.1 3 rfl) ?_
            refine lv_iconst (v := 1) hx hb dL_law_171 (by decide) ?_
            refine lv_iadd hx hb dL_law_172 ?_
            obtain ⟨v23, e23, hf⟩ := ob hf
            refine zw_sld hx hb hX hbl hbA hS e23 dL_law_173 ?_
            refine zw_aload_n hx hb dL_law_174 rfl (lv_at hl.1 0 rfl) ?_
            refine lv_iload_n hx hb dL_law_175 rfl (lv_at hl.1 3 rfl) ?_
            refine lv_iconst (v := 2) hx hb dL_law_176 (by decide) ?_
            refine lv_iadd hx hb dL_law_177 ?_
            obtain ⟨v24, e24, hf⟩ := ob hf
            refine zw_sld hx hb hX hbl hbA hS e24 dL_law_178 ?_
            refine zw_aload_n hx hb dL_law_179 rfl (lv_at hl.1 0 rfl) ?_
            refine lv_iload_n hx hb dL_law_180 rfl (lv_at hl.1 3 rfl) ?_
            refine lv_iconst (v := 3) hx hb dL_law_181 (by decide) ?_
            refine lv_iadd hx hb dL_law_182 ?_
            obtain ⟨v25, e25, hf⟩ := ob hf
            refine zw_sld hx hb hX hbl hbA hS e25 dL_law_183 ?_
            refine zw_aload_n hx hb dL_law_184 rfl (lv_at hl.1 0 rfl) ?_
            refine lv_iload_n hx hb dL_law_185 rfl (lv_at hl.1 3 rfl) ?_
            refine lv_iconst (v := 4) hx hb dL_law_186 (by decide) ?_
            refine lv_iadd hx hb dL_law_187 ?_
            obtain ⟨v26, e26, hf⟩ := ob hf
            refine zw_sld hx hb hX hbl hbA hS e26 dL_law_188 ?_
            obtain ⟨a927, j27, hf⟩ := ob hf
            obtain ⟨q27, e27, hf⟩ := ob hf
            refine zw_callV (rest := [.int q22.1]) (n := 4) F (kX9_method (r := q27.1) (h' := q27.2) l D s.heap.size l2 v23 v24 v25 v26 q22.2 e27) 9 rfl (by decide) j27 wd_703 wd_704 wd_705 wd_6 wd_706 (by decide +kernel) ⟨by decide, by decide⟩ hW hS rfl hl.1.1 (by simp only [List.map_cons, List.map_nil, va_rf_cat, z_icat, List.sum_cons, List.sum_nil]; decide) rfl ⟨(by show cells + 4 + 0 ≤ 600000; omega), (by show slots + 228 + 0 ≤ 7302249; omega)⟩ dL_law_189 (fun H locs hW hS => ?_)
            refine W.eq (g2 := F0 m 192 ls [.int q27.1, .int q22.1]) rfl ?_
            refine lv_icmp_eq (tgt := 468) hx hb dL_law_192 (by decide) (fun c28 => ?_) (fun c28 => ?_)
            · have hf := oift c28 hf
              refine W.widen (k := cells + 8) (n := slots + 256) (by show cells + 4 + 0 ≤ cells + 8; omega) (by show slots + 228 + 0 ≤ slots + 256; omega) ?_
              exact kL_law_b468 C0 F cells slots (fL_law_b18 N L xs n) (fun l1 l2 l3 h hf H locs ls hl hW hS => ih (cells + 8) (slots + 256) l1 l2 l3 h (by omega) (by omega) hf H locs ls hl hW hS) l1 l2 l3 q27.2 hf H locs ls (z_sub hl [0, 1, 2, 3] rfl) hW hS
            · have hf := oiff c28 hf
              refine lv_iconst (v := 0) hx hb dL_law_195 (by decide) ?_
              exact absurd (oret hf).1 (by decide)
          · have hf := oiff c17 hf
            by_cases c29 : (v2 &&& 15) = 3
            · have hf := oift c29 hf
              refine zl_tab hx hb (3) (164) (tgt := 197) dL_law_33 (by rw [c29]; decide) (by decide) ?_
              refine zw_aload_n hx hb dL_law_197 rfl (lv_at hl.1 1 rfl) ?_
              refine zw_aload_n hx hb dL_law_198 rfl (lv_at hl.1 0 rfl) ?_
              refine lv_iload_n hx hb dL_law_199 rfl (lv_at hl.1 3 rfl) ?_
              refine lv_iconst (v := 1) hx hb dL_law_200 (by decide) ?_
              refine lv_iadd hx hb dL_law_201 ?_
              obtain ⟨v30, e30, hf⟩ := ob hf
              refine zw_sld hx hb hX hbl hbA hS e30 dL_law_202 ?_
              refine zw_aload_n hx hb dL_law_203 rfl (lv_at hl.1 0 rfl) ?_
              refine lv_iload_n hx hb dL_law_204 rfl (lv_at hl.1 3 rfl) ?_
              refine lv_iconst (v := 2) hx hb dL_law_205 (by decide) ?_
              refine lv_iadd hx hb dL_law_206 ?_
              obtain ⟨v31, e31, hf⟩ := ob hf
              refine zw_sld hx hb hX hbl hbA hS e31 dL_law_207 ?_
              obtain ⟨a932, j32, hf⟩ := ob hf
              obtain ⟨q32, e32, hf⟩ := ob hf
              refine zw_callV (rest := []) (n := 2) F (kX8_parameter (r := q32.1) (h' := q32.2) l D s.heap.size l1 v30 v31 h e32) 8 rfl (by decide) j32 wd_258 wd_259 wd_260 wd_1 wd_261 (by decide +kernel) ⟨by decide, by decide⟩ hW hS rfl hl.1.1 (by decide) rfl ⟨(by show cells + 0 ≤ 600000; omega), (by show slots + 0 ≤ 7302249; omega)⟩ dL_law_208 (fun H locs hW hS => ?_)
              refine W.eq (g2 := F0 m 211 ls [.int q32.1]) rfl ?_
              refine zw_aload_n hx hb dL_law_211 rfl (lv_at hl.1 2 rfl) ?_
              refine zw_aload_n hx hb dL_law_212 rfl (lv_at hl.1 0 rfl) ?_
              refine lv_iload_n hx hb dL_law_213 rfl (lv_at hl.1 3 rfl) ?_
              refine lv_iconst (v := 1) hx hb dL_law_214 (by decide) ?_
              refine lv_iadd hx hb dL_law_215 ?_
              obtain ⟨v33, e33, hf⟩ := ob hf
              refine zw_sld hx hb hX hbl hbA hS e33 dL_law_216 ?_
              refine zw_aload_n hx hb dL_law_217 rfl (lv_at hl.1 0 rfl) ?_
              refine lv_iload_n hx hb dL_law_218 rfl (lv_at hl.1 3 rfl) ?_
              refine lv_iconst (v := 2) hx hb dL_law_219 (by decide) ?_
              refine lv_iadd hx hb dL_law_220 ?_
              obtain ⟨v34, e34, hf⟩ := ob hf
              refine zw_sld hx hb hX hbl hbA hS e34 dL_law_221 ?_
              obtain ⟨a935, j35, hf⟩ := ob hf
              obtain ⟨q35, e35, hf⟩ := ob hf
              refine zw_callV (rest := [.int q32.1]) (n := 2) F (kX9_parameter (r := q35.1) (h' := q35.2) l D s.heap.size l2 v33 v34 q32.2 e35) 9 rfl (by decide) j35 wd_707 wd_708 wd_709 wd_6 wd_710 (by decide +kernel) ⟨by decide, by decide⟩ hW hS rfl hl.1.1 (by simp only [List.map_cons, List.map_nil, va_rf_cat, z_icat, List.sum_cons, List.sum_nil]; decide) rfl ⟨(by show cells + 0 + 0 ≤ 600000; omega), (by show slots + 0 + 0 ≤ 7302249; omega)⟩ dL_law_222 (fun H locs hW hS => ?_)
              refine W.eq (g2 := F0 m 225 ls [.int q35.1, .int q32.1]) rfl ?_
              refine lv_icmp_eq (tgt := 468) hx hb dL_law_225 (by decide) (fun c36 => ?_) (fun c36 => ?_)
              · have hf := oift c36 hf
                refine W.widen (k := cells + 8) (n := slots + 256) (by show cells + 0 + 0 ≤ cells + 8; omega) (by show slots + 0 + 0 ≤ slots + 256; omega) ?_
                exact kL_law_b468 C0 F cells slots (fL_law_b18 N L xs n) (fun l1 l2 l3 h hf H locs ls hl hW hS => ih (cells + 8) (slots + 256) l1 l2 l3 h (by omega) (by omega) hf H locs ls hl hW hS) l1 l2 l3 q35.2 hf H locs ls (z_sub hl [0, 1, 2, 3] rfl) hW hS
              · have hf := oiff c36 hf
                refine lv_iconst (v := 0) hx hb dL_law_228 (by decide) ?_
                exact absurd (oret hf).1 (by decide)
            · have hf := oiff c29 hf
              by_cases c37 : (v2 &&& 15) = 4
              · have hf := oift c37 hf
                refine zl_tab hx hb (4) (197) (tgt := 230) dL_law_33 (by rw [c37]; decide) (by decide) ?_
                refine zw_aload_n hx hb dL_law_230 rfl (lv_at hl.1 1 rfl) ?_
                refine zw_aload_n hx hb dL_law_231 rfl (lv_at hl.1 0 rfl) ?_
                refine lv_iload_n hx hb dL_law_232 rfl (lv_at hl.1 3 rfl) ?_
                refine lv_iconst (v := 1) hx hb dL_law_233 (by decide) ?_
                refine lv_iadd hx hb dL_law_234 ?_
                obtain ⟨v38, e38, hf⟩ := ob hf
                refine zw_sld hx hb hX hbl hbA hS e38 dL_law_235 ?_
                refine zw_aload_n hx hb dL_law_236 rfl (lv_at hl.1 0 rfl) ?_
                refine lv_iload_n hx hb dL_law_237 rfl (lv_at hl.1 3 rfl) ?_
                refine lv_iconst (v := 2) hx hb dL_law_238 (by decide) ?_
                refine lv_iadd hx hb dL_law_239 ?_
                obtain ⟨v39, e39, hf⟩ := ob hf
                refine zw_sld hx hb hX hbl hbA hS e39 dL_law_240 ?_
                obtain ⟨a940, j40, hf⟩ := ob hf
                obtain ⟨q40, e40, hf⟩ := ob hf
                refine zw_callV (rest := []) (n := 2) F (kX8_slot (r := q40.1) (h' := q40.2) l D s.heap.size N l1 v38 v39 h e40) 8 rfl (by decide) j40 wd_274 wd_275 wd_276 wd_1 wd_277 (by decide +kernel) ⟨by decide, by decide⟩ hW hS rfl hl.1.1 (by decide) rfl ⟨(by show cells + 0 ≤ 600000; omega), (by show slots + 0 ≤ 7302249; omega)⟩ dL_law_241 (fun H locs hW hS => ?_)
                refine W.eq (g2 := F0 m 244 ls [.int q40.1]) rfl ?_
                refine zw_aload_n hx hb dL_law_244 rfl (lv_at hl.1 2 rfl) ?_
                refine zw_aload_n hx hb dL_law_245 rfl (lv_at hl.1 0 rfl) ?_
                refine lv_iload_n hx hb dL_law_246 rfl (lv_at hl.1 3 rfl) ?_
                refine lv_iconst (v := 1) hx hb dL_law_247 (by decide) ?_
                refine lv_iadd hx hb dL_law_248 ?_
                obtain ⟨v41, e41, hf⟩ := ob hf
                refine zw_sld hx hb hX hbl hbA hS e41 dL_law_249 ?_
                refine zw_aload_n hx hb dL_law_250 rfl (lv_at hl.1 0 rfl) ?_
                refine lv_iload_n hx hb dL_law_251 rfl (lv_at hl.1 3 rfl) ?_
                refine lv_iconst (v := 2) hx hb dL_law_252 (by decide) ?_
                refine lv_iadd hx hb dL_law_253 ?_
                obtain ⟨v42, e42, hf⟩ := ob hf
                refine zw_sld hx hb hX hbl hbA hS e42 dL_law_254 ?_
                obtain ⟨a943, j43, hf⟩ := ob hf
                obtain ⟨q43, e43, hf⟩ := ob hf
                refine zw_callV (rest := [.int q40.1]) (n := 2) F (kX9_slot (r := q43.1) (h' := q43.2) l D s.heap.size N l2 v41 v42 q40.2 e43) 9 rfl (by decide) j43 wd_715 wd_716 wd_717 wd_6 wd_718 (by decide +kernel) ⟨by decide, by decide⟩ hW hS rfl hl.1.1 (by simp only [List.map_cons, List.map_nil, va_rf_cat, z_icat, List.sum_cons, List.sum_nil]; decide) rfl ⟨(by show cells + 0 + 0 ≤ 600000; omega), (by show slots + 0 + 0 ≤ 7302249; omega)⟩ dL_law_255 (fun H locs hW hS => ?_)
                refine W.eq (g2 := F0 m 258 ls [.int q43.1, .int q40.1]) rfl ?_
                refine lv_icmp_eq (tgt := 468) hx hb dL_law_258 (by decide) (fun c44 => ?_) (fun c44 => ?_)
                · have hf := oift c44 hf
                  refine W.widen (k := cells + 8) (n := slots + 256) (by show cells + 0 + 0 ≤ cells + 8; omega) (by show slots + 0 + 0 ≤ slots + 256; omega) ?_
                  exact kL_law_b468 C0 F cells slots (fL_law_b18 N L xs n) (fun l1 l2 l3 h hf H locs ls hl hW hS => ih (cells + 8) (slots + 256) l1 l2 l3 h (by omega) (by omega) hf H locs ls hl hW hS) l1 l2 l3 q43.2 hf H locs ls (z_sub hl [0, 1, 2, 3] rfl) hW hS
                · have hf := oiff c44 hf
                  refine lv_iconst (v := 0) hx hb dL_law_261 (by decide) ?_
                  exact absurd (oret hf).1 (by decide)
              · have hf := oiff c37 hf
                by_cases c45 : (v2 &&& 15) = 5
                · have hf := oift c45 hf
                  refine zl_tab hx hb (5) (230) (tgt := 263) dL_law_33 (by rw [c45]; decide) (by decide) ?_
                  refine zw_aload_n hx hb dL_law_263 rfl (lv_at hl.1 1 rfl) ?_
                  refine zw_aload_n hx hb dL_law_264 rfl (lv_at hl.1 0 rfl) ?_
                  refine lv_iload_n hx hb dL_law_265 rfl (lv_at hl.1 3 rfl) ?_
                  refine lv_iconst (v := 1) hx hb dL_law_266 (by decide) ?_
                  refine lv_iadd hx hb dL_law_267 ?_
                  obtain ⟨v46, e46, hf⟩ := ob hf
                  refine zw_sld hx hb hX hbl hbA hS e46 dL_law_268 ?_
                  refine zw_aload_n hx hb dL_law_269 rfl (lv_at hl.1 0 rfl) ?_
                  refine lv_iload_n hx hb dL_law_270 rfl (lv_at hl.1 3 rfl) ?_
                  refine lv_iconst (v := 2) hx hb dL_law_271 (by decide) ?_
                  refine lv_iadd hx hb dL_law_272 ?_
                  obtain ⟨v47, e47, hf⟩ := ob hf
                  refine zw_sld hx hb hX hbl hbA hS e47 dL_law_273 ?_
                  refine zw_aload_n hx hb dL_law_274 rfl (lv_at hl.1 0 rfl) ?_
                  refine lv_iload_n hx hb dL_law_275 rfl (lv_at hl.1 3 rfl) ?_
                  refine lv_iconst (v := 3) hx hb dL_law_276 (by decide) ?_
                  refine lv_iadd hx hb dL_law_277 ?_
                  obtain ⟨v48, e48, hf⟩ := ob hf
                  refine zw_sld hx hb hX hbl hbA hS e48 dL_law_278 ?_
                  refine zw_aload_n hx hb dL_law_279 rfl (lv_at hl.1 0 rfl) ?_
                  refine lv_iload_n hx hb dL_law_280 rfl (lv_at hl.1 3 rfl) ?_
                  refine lv_iconst (v := 4) hx hb dL_law_281 (by decide) ?_
                  refine lv_iadd hx hb dL_law_282 ?_
                  obtain ⟨v49, e49, hf⟩ := ob hf
                  refine zw_sld hx hb hX hbl hbA hS e49 dL_law_283 ?_
                  obtain ⟨a950, j50, hf⟩ := ob hf
                  obtain ⟨q50, e50, hf⟩ := ob hf
                  refine zw_callV (rest := []) (n := 4) F (kX8_op (r := q50.1) (h' := q50.2) l D s.heap.size l1 v46 v47 v48 v49 h e50) 8 rfl (by decide) j50 wd_290 wd_291 wd_292 wd_1 wd_293 (by decide +kernel) ⟨by decide, by decide⟩ hW hS rfl hl.1.1 (by decide) rfl ⟨(by show cells + 3 ≤ 600000; omega), (by show slots + 22 ≤ 7302249; omega)⟩ dL_law_284 (fun H locs hW hS => ?_)
                  refine W.eq (g2 := F0 m 287 ls [.int q50.1]) rfl ?_
                  refine zw_aload_n hx hb dL_law_287 rfl (lv_at hl.1 2 rfl) ?_
                  refine zw_aload_n hx hb dL_law_288 rfl (lv_at hl.1 0 rfl) ?_
                  refine lv_iload_n hx hb dL_law_289 rfl (lv_at hl.1 3 rfl) ?_
                  refine lv_iconst (v := 1) hx hb dL_law_290 (by decide) ?_
                  refine lv_iadd hx hb dL_law_291 ?_
                  obtain ⟨v51, e51, hf⟩ := ob hf
                  refine zw_sld hx hb hX hbl hbA hS e51 dL_law_292 ?_
                  refine zw_aload_n hx hb dL_law_293 rfl (lv_at hl.1 0 rfl) ?_
                  refine lv_iload_n hx hb dL_law_294 rfl (lv_at hl.1 3 rfl) ?_
                  refine lv_iconst (v := 2) hx hb dL_law_295 (by decide) ?_
                  refine lv_iadd hx hb dL_law_296 ?_
                  obtain ⟨v52, e52, hf⟩ := ob hf
                  refine zw_sld hx hb hX hbl hbA hS e52 dL_law_297 ?_
                  refine zw_aload_n hx hb dL_law_298 rfl (lv_at hl.1 0 rfl) ?_
                  refine lv_iload_n hx hb dL_law_299 rfl (lv_at hl.1 3 rfl) ?_
                  refine lv_iconst (v := 3) hx hb dL_law_300 (by decide) ?_
                  refine lv_iadd hx hb dL_law_301 ?_
                  obtain ⟨v53, e53, hf⟩ := ob hf
                  refine zw_sld hx hb hX hbl hbA hS e53 dL_law_302 ?_
                  refine zw_aload_n hx hb dL_law_303 rfl (lv_at hl.1 0 rfl) ?_
                  refine lv_iload_n hx hb dL_law_304 rfl (lv_at hl.1 3 rfl) ?_
                  refine lv_iconst (v := 4) hx hb dL_law_305 (by decide) ?_
                  refine lv_iadd hx hb dL_law_306 ?_
                  obtain ⟨v54, e54, hf⟩ := ob hf
                  refine zw_sld hx hb hX hbl hbA hS e54 dL_law_307 ?_
                  obtain ⟨a955, j55, hf⟩ := ob hf
                  obtain ⟨q55, e55, hf⟩ := ob hf
                  refine zw_callV (rest := [.int q50.1]) (n := 4) F (kX9_op (r := q55.1) (h' := q55.2) l D s.heap.size l2 v51 v52 v53 v54 q50.2 e55) 9 rfl (by decide) j55 wd_723 wd_724 wd_725 wd_6 wd_726 (by decide +kernel) ⟨by decide, by decide⟩ hW hS rfl hl.1.1 (by simp only [List.map_cons, List.map_nil, va_rf_cat, z_icat, List.sum_cons, List.sum_nil]; decide) rfl ⟨(by show cells + 3 + 0 ≤ 600000; omega), (by show slots + 22 + 0 ≤ 7302249; omega)⟩ dL_law_308 (fun H locs hW hS => ?_)
                  refine W.eq (g2 := F0 m 311 ls [.int q55.1, .int q50.1]) rfl ?_
                  refine lv_icmp_eq (tgt := 468) hx hb dL_law_311 (by decide) (fun c56 => ?_) (fun c56 => ?_)
                  · have hf := oift c56 hf
                    refine W.widen (k := cells + 8) (n := slots + 256) (by show cells + 3 + 0 ≤ cells + 8; omega) (by show slots + 22 + 0 ≤ slots + 256; omega) ?_
                    exact kL_law_b468 C0 F cells slots (fL_law_b18 N L xs n) (fun l1 l2 l3 h hf H locs ls hl hW hS => ih (cells + 8) (slots + 256) l1 l2 l3 h (by omega) (by omega) hf H locs ls hl hW hS) l1 l2 l3 q55.2 hf H locs ls (z_sub hl [0, 1, 2, 3] rfl) hW hS
                  · have hf := oiff c56 hf
                    refine lv_iconst (v := 0) hx hb dL_law_314 (by decide) ?_
                    exact absurd (oret hf).1 (by decide)
                · have hf := oiff c45 hf
                  by_cases c57 : (v2 &&& 15) = 6
                  · have hf := oift c57 hf
                    refine zl_tab hx hb (6) (283) (tgt := 316) dL_law_33 (by rw [c57]; decide) (by decide) ?_
                    refine zw_aload_n hx hb dL_law_316 rfl (lv_at hl.1 1 rfl) ?_
                    refine zw_aload_n hx hb dL_law_317 rfl (lv_at hl.1 0 rfl) ?_
                    refine lv_iload_n hx hb dL_law_318 rfl (lv_at hl.1 3 rfl) ?_
                    refine lv_iconst (v := 1) hx hb dL_law_319 (by decide) ?_
                    refine lv_iadd hx hb dL_law_320 ?_
                    obtain ⟨v58, e58, hf⟩ := ob hf
                    refine zw_sld hx hb hX hbl hbA hS e58 dL_law_321 ?_
                    refine zw_aload_n hx hb dL_law_322 rfl (lv_at hl.1 0 rfl) ?_
                    refine lv_iload_n hx hb dL_law_323 rfl (lv_at hl.1 3 rfl) ?_
                    refine lv_iconst (v := 2) hx hb dL_law_324 (by decide) ?_
                    refine lv_iadd hx hb dL_law_325 ?_
                    obtain ⟨v59, e59, hf⟩ := ob hf
                    refine zw_sld hx hb hX hbl hbA hS e59 dL_law_326 ?_
                    refine zw_aload_n hx hb dL_law_327 rfl (lv_at hl.1 0 rfl) ?_
                    refine lv_iload_n hx hb dL_law_328 rfl (lv_at hl.1 3 rfl) ?_
                    refine lv_iconst (v := 3) hx hb dL_law_329 (by decide) ?_
                    refine lv_iadd hx hb dL_law_330 ?_
                    obtain ⟨v60, e60, hf⟩ := ob hf
                    refine zw_sld hx hb hX hbl hbA hS e60 dL_law_331 ?_
                    refine zw_aload_n hx hb dL_law_332 rfl (lv_at hl.1 0 rfl) ?_
                    refine lv_iload_n hx hb dL_law_333 rfl (lv_at hl.1 3 rfl) ?_
                    refine lv_iconst (v := 4) hx hb dL_law_334 (by decide) ?_
                    refine lv_iadd hx hb dL_law_335 ?_
                    obtain ⟨v61, e61, hf⟩ := ob hf
                    refine zw_sld hx hb hX hbl hbA hS e61 dL_law_336 ?_
                    refine zw_aload_n hx hb dL_law_337 rfl (lv_at hl.1 0 rfl) ?_
                    refine lv_iload_n hx hb dL_law_338 rfl (lv_at hl.1 3 rfl) ?_
                    refine lv_iconst (v := 5) hx hb dL_law_339 (by decide) ?_
                    refine lv_iadd hx hb dL_law_340 ?_
                    obtain ⟨v62, e62, hf⟩ := ob hf
                    refine zw_sld hx hb hX hbl hbA hS e62 dL_law_341 ?_
                    obtain ⟨a963, j63, hf⟩ := ob hf
                    obtain ⟨q63, e63, hf⟩ := ob hf
                    refine zw_callV (rest := []) (n := 5) F (kX8_handler (r := q63.1) (h' := q63.2) l D s.heap.size l1 v58 v59 v60 v61 v62 h e63) 8 rfl (by decide) j63 wd_353 wd_354 wd_355 wd_1 wd_356 (by decide +kernel) ⟨by decide, by decide⟩ hW hS rfl hl.1.1 (by decide) rfl ⟨(by show cells + 1 ≤ 600000; omega), (by show slots + 4 ≤ 7302249; omega)⟩ dL_law_342 (fun H locs hW hS => ?_)
                    refine W.eq (g2 := F0 m 345 ls [.int q63.1]) rfl ?_
                    refine zw_aload_n hx hb dL_law_345 rfl (lv_at hl.1 2 rfl) ?_
                    refine zw_aload_n hx hb dL_law_346 rfl (lv_at hl.1 0 rfl) ?_
                    refine lv_iload_n hx hb dL_law_347 rfl (lv_at hl.1 3 rfl) ?_
                    refine lv_iconst (v := 1) hx hb dL_law_348 (by decide) ?_
                    refine lv_iadd hx hb dL_law_349 ?_
                    obtain ⟨v64, e64, hf⟩ := ob hf
                    refine zw_sld hx hb hX hbl hbA hS e64 dL_law_350 ?_
                    refine zw_aload_n hx hb dL_law_351 rfl (lv_at hl.1 0 rfl) ?_
                    refine lv_iload_n hx hb dL_law_352 rfl (lv_at hl.1 3 rfl) ?_
                    refine lv_iconst (v := 2) hx hb dL_law_353 (by decide) ?_
                    refine lv_iadd hx hb dL_law_354 ?_
                    obtain ⟨v65, e65, hf⟩ := ob hf
                    refine zw_sld hx hb hX hbl hbA hS e65 dL_law_355 ?_
                    refine zw_aload_n hx hb dL_law_356 rfl (lv_at hl.1 0 rfl) ?_
                    refine lv_iload_n hx hb dL_law_357 rfl (lv_at hl.1 3 rfl) ?_
                    refine lv_iconst (v := 3) hx hb dL_law_358 (by decide) ?_
                    refine lv_iadd hx hb dL_law_359 ?_
                    obtain ⟨v66, e66, hf⟩ := ob hf
                    refine zw_sld hx hb hX hbl hbA hS e66 dL_law_360 ?_
                    refine zw_aload_n hx hb dL_law_361 rfl (lv_at hl.1 0 rfl) ?_
                    refine lv_iload_n hx hb dL_law_362 rfl (lv_at hl.1 3 rfl) ?_
                    refine lv_iconst (v := 4) hx hb dL_law_363 (by decide) ?_
                    refine lv_iadd hx hb dL_law_364 ?_
                    obtain ⟨v67, e67, hf⟩ := ob hf
                    refine zw_sld hx hb hX hbl hbA hS e67 dL_law_365 ?_
                    refine zw_aload_n hx hb dL_law_366 rfl (lv_at hl.1 0 rfl) ?_
                    refine lv_iload_n hx hb dL_law_367 rfl (lv_at hl.1 3 rfl) ?_
                    refine lv_iconst (v := 5) hx hb dL_law_368 (by decide) ?_
                    refine lv_iadd hx hb dL_law_369 ?_
                    obtain ⟨v68, e68, hf⟩ := ob hf
                    refine zw_sld hx hb hX hbl hbA hS e68 dL_law_370 ?_
                    obtain ⟨a969, j69, hf⟩ := ob hf
                    obtain ⟨q69, e69, hf⟩ := ob hf
                    refine zw_callV (rest := [.int q63.1]) (n := 5) F (kX9_handler (r := q69.1) (h' := q69.2) l D s.heap.size l2 v64 v65 v66 v67 v68 q63.2 e69) 9 rfl (by decide) j69 wd_731 wd_732 wd_733 wd_6 wd_734 (by decide +kernel) ⟨by decide, by decide⟩ hW hS rfl hl.1.1 (by simp only [List.map_cons, List.map_nil, va_rf_cat, z_icat, List.sum_cons, List.sum_nil]; decide) rfl ⟨(by show cells + 1 + 0 ≤ 600000; omega), (by show slots + 4 + 0 ≤ 7302249; omega)⟩ dL_law_371 (fun H locs hW hS => ?_)
                    refine W.eq (g2 := F0 m 374 ls [.int q69.1, .int q63.1]) rfl ?_
                    refine lv_icmp_eq (tgt := 468) hx hb dL_law_374 (by decide) (fun c70 => ?_) (fun c70 => ?_)
                    · have hf := oift c70 hf
                      refine W.widen (k := cells + 8) (n := slots + 256) (by show cells + 1 + 0 ≤ cells + 8; omega) (by show slots + 4 + 0 ≤ slots + 256; omega) ?_
                      exact kL_law_b468 C0 F cells slots (fL_law_b18 N L xs n) (fun l1 l2 l3 h hf H locs ls hl hW hS => ih (cells + 8) (slots + 256) l1 l2 l3 h (by omega) (by omega) hf H locs ls hl hW hS) l1 l2 l3 q69.2 hf H locs ls (z_sub hl [0, 1, 2, 3] rfl) hW hS
                    · have hf := oiff c70 hf
                      refine lv_iconst (v := 0) hx hb dL_law_377 (by decide) ?_
                      exact absurd (oret hf).1 (by decide)
                  · have hf := oiff c57 hf
                    by_cases c71 : (v2 &&& 15) = 7
                    · have hf := oift c71 hf
                      refine zl_tab hx hb (7) (346) (tgt := 379) dL_law_33 (by rw [c71]; decide) (by decide) ?_
                      refine zw_aload_n hx hb dL_law_379 rfl (lv_at hl.1 1 rfl) ?_
                      refine zw_aload_n hx hb dL_law_380 rfl (lv_at hl.1 0 rfl) ?_
                      refine lv_iload_n hx hb dL_law_381 rfl (lv_at hl.1 3 rfl) ?_
                      refine lv_iconst (v := 1) hx hb dL_law_382 (by decide) ?_
                      refine lv_iadd hx hb dL_law_383 ?_
                      obtain ⟨v72, e72, hf⟩ := ob hf
                      refine zw_sld hx hb hX hbl hbA hS e72 dL_law_384 ?_
                      obtain ⟨a973, j73, hf⟩ := ob hf
                      obtain ⟨q73, e73, hf⟩ := ob hf
                      refine zw_callV (rest := []) (n := 1) F (kX8_verify (r := q73.1) (h' := q73.2) l D s.heap.size N l1 v72 h e73) 8 rfl (by decide) j73 wd_382 wd_383 wd_384 wd_1 wd_385 (by decide +kernel) ⟨by decide, by decide⟩ hW hS rfl hl.1.1 (by decide) rfl ⟨(by show cells + 0 ≤ 600000; omega), (by show slots + 0 ≤ 7302249; omega)⟩ dL_law_385 (fun H locs hW hS => ?_)
                      refine W.eq (g2 := F0 m 388 ls [.int q73.1]) rfl ?_
                      refine zw_aload_n hx hb dL_law_388 rfl (lv_at hl.1 2 rfl) ?_
                      refine zw_aload_n hx hb dL_law_389 rfl (lv_at hl.1 0 rfl) ?_
                      refine lv_iload_n hx hb dL_law_390 rfl (lv_at hl.1 3 rfl) ?_
                      refine lv_iconst (v := 1) hx hb dL_law_391 (by decide) ?_
                      refine lv_iadd hx hb dL_law_392 ?_
                      obtain ⟨v74, e74, hf⟩ := ob hf
                      refine zw_sld hx hb hX hbl hbA hS e74 dL_law_393 ?_
                      obtain ⟨a975, j75, hf⟩ := ob hf
                      obtain ⟨q75, e75, hf⟩ := ob hf
                      refine zw_callV (rest := [.int q73.1]) (n := 1) F (kX9_verify (r := q75.1) (h' := q75.2) l D s.heap.size N l2 v74 q73.2 e75) 9 rfl (by decide) j75 wd_735 wd_736 wd_737 wd_6 wd_738 (by decide +kernel) ⟨by decide, by decide⟩ hW hS rfl hl.1.1 (by simp only [List.map_cons, List.map_nil, va_rf_cat, z_icat, List.sum_cons, List.sum_nil]; decide) rfl ⟨(by show cells + 0 + 0 ≤ 600000; omega), (by show slots + 0 + 0 ≤ 7302249; omega)⟩ dL_law_394 (fun H locs hW hS => ?_)
                      refine W.eq (g2 := F0 m 397 ls [.int q75.1, .int q73.1]) rfl ?_
                      refine lv_icmp_eq (tgt := 468) hx hb dL_law_397 (by decide) (fun c76 => ?_) (fun c76 => ?_)
                      · have hf := oift c76 hf
                        refine W.widen (k := cells + 8) (n := slots + 256) (by show cells + 0 + 0 ≤ cells + 8; omega) (by show slots + 0 + 0 ≤ slots + 256; omega) ?_
                        exact kL_law_b468 C0 F cells slots (fL_law_b18 N L xs n) (fun l1 l2 l3 h hf H locs ls hl hW hS => ih (cells + 8) (slots + 256) l1 l2 l3 h (by omega) (by omega) hf H locs ls hl hW hS) l1 l2 l3 q75.2 hf H locs ls (z_sub hl [0, 1, 2, 3] rfl) hW hS
                      · have hf := oiff c76 hf
                        refine lv_iconst (v := 0) hx hb dL_law_400 (by decide) ?_
                        exact absurd (oret hf).1 (by decide)
                    · have hf := oiff c71 hf
                      by_cases c77 : (v2 &&& 15) = 8
                      · have hf := oift c77 hf
                        refine zl_tab hx hb (8) (369) (tgt := 402) dL_law_33 (by rw [c77]; decide) (by decide) ?_
                        refine zw_aload_n hx hb dL_law_402 rfl (lv_at hl.1 1 rfl) ?_
                        refine zw_aload_n hx hb dL_law_403 rfl (lv_at hl.1 0 rfl) ?_
                        refine lv_iload_n hx hb dL_law_404 rfl (lv_at hl.1 3 rfl) ?_
                        refine lv_iconst (v := 1) hx hb dL_law_405 (by decide) ?_
                        refine lv_iadd hx hb dL_law_406 ?_
                        obtain ⟨v78, e78, hf⟩ := ob hf
                        refine zw_sld hx hb hX hbl hbA hS e78 dL_law_407 ?_
                        refine zw_aload_n hx hb dL_law_408 rfl (lv_at hl.1 0 rfl) ?_
                        refine lv_iload_n hx hb dL_law_409 rfl (lv_at hl.1 3 rfl) ?_
                        refine lv_iconst (v := 2) hx hb dL_law_410 (by decide) ?_
                        refine lv_iadd hx hb dL_law_411 ?_
                        obtain ⟨v79, e79, hf⟩ := ob hf
                        refine zw_sld hx hb hX hbl hbA hS e79 dL_law_412 ?_
                        refine zw_aload_n hx hb dL_law_413 rfl (lv_at hl.1 0 rfl) ?_
                        refine lv_iload_n hx hb dL_law_414 rfl (lv_at hl.1 3 rfl) ?_
                        refine lv_iconst (v := 3) hx hb dL_law_415 (by decide) ?_
                        refine lv_iadd hx hb dL_law_416 ?_
                        obtain ⟨v80, e80, hf⟩ := ob hf
                        refine zw_sld hx hb hX hbl hbA hS e80 dL_law_417 ?_
                        refine zw_aload_n hx hb dL_law_418 rfl (lv_at hl.1 0 rfl) ?_
                        refine lv_iload_n hx hb dL_law_419 rfl (lv_at hl.1 3 rfl) ?_
                        refine lv_iconst (v := 4) hx hb dL_law_420 (by decide) ?_
                        refine lv_iadd hx hb dL_law_421 ?_
                        obtain ⟨v81, e81, hf⟩ := ob hf
                        refine zw_sld hx hb hX hbl hbA hS e81 dL_law_422 ?_
                        obtain ⟨a982, j82, hf⟩ := ob hf
                        obtain ⟨q82, e82, hf⟩ := ob hf
                        refine zw_callV (rest := []) (n := 4) F (kX8_stands (r := q82.1) (h' := q82.2) l D s.heap.size l1 v78 v79 v80 v81 h e82) 8 rfl (by decide) j82 wd_571 wd_572 wd_573 wd_1 wd_574 (by decide +kernel) ⟨by decide, by decide⟩ hW hS rfl hl.1.1 (by decide) rfl ⟨(by show cells + 0 ≤ 600000; omega), (by show slots + 0 ≤ 7302249; omega)⟩ dL_law_423 (fun H locs hW hS => ?_)
                        refine W.eq (g2 := F0 m 426 ls [.int q82.1]) rfl ?_
                        refine zw_aload_n hx hb dL_law_426 rfl (lv_at hl.1 2 rfl) ?_
                        refine zw_aload_n hx hb dL_law_427 rfl (lv_at hl.1 0 rfl) ?_
                        refine lv_iload_n hx hb dL_law_428 rfl (lv_at hl.1 3 rfl) ?_
                        refine lv_iconst (v := 1) hx hb dL_law_429 (by decide) ?_
                        refine lv_iadd hx hb dL_law_430 ?_
                        obtain ⟨v83, e83, hf⟩ := ob hf
                        refine zw_sld hx hb hX hbl hbA hS e83 dL_law_431 ?_
                        refine zw_aload_n hx hb dL_law_432 rfl (lv_at hl.1 0 rfl) ?_
                        refine lv_iload_n hx hb dL_law_433 rfl (lv_at hl.1 3 rfl) ?_
                        refine lv_iconst (v := 2) hx hb dL_law_434 (by decide) ?_
                        refine lv_iadd hx hb dL_law_435 ?_
                        obtain ⟨v84, e84, hf⟩ := ob hf
                        refine zw_sld hx hb hX hbl hbA hS e84 dL_law_436 ?_
                        refine zw_aload_n hx hb dL_law_437 rfl (lv_at hl.1 0 rfl) ?_
                        refine lv_iload_n hx hb dL_law_438 rfl (lv_at hl.1 3 rfl) ?_
                        refine lv_iconst (v := 3) hx hb dL_law_439 (by decide) ?_
                        refine lv_iadd hx hb dL_law_440 ?_
                        obtain ⟨v85, e85, hf⟩ := ob hf
                        refine zw_sld hx hb hX hbl hbA hS e85 dL_law_441 ?_
                        refine zw_aload_n hx hb dL_law_442 rfl (lv_at hl.1 0 rfl) ?_
                        refine lv_iload_n hx hb dL_law_443 rfl (lv_at hl.1 3 rfl) ?_
                        refine lv_iconst (v := 4) hx hb dL_law_444 (by decide) ?_
                        refine lv_iadd hx hb dL_law_445 ?_
                        obtain ⟨v86, e86, hf⟩ := ob hf
                        refine zw_sld hx hb hX hbl hbA hS e86 dL_law_446 ?_
                        obtain ⟨a987, j87, hf⟩ := ob hf
                        obtain ⟨q87, e87, hf⟩ := ob hf
                        refine zw_callV (rest := [.int q82.1]) (n := 4) F (kX9_stands (r := q87.1) (h' := q87.2) l D s.heap.size l2 v83 v84 v85 v86 q82.2 e87) 9 rfl (by decide) j87 wd_812 wd_813 wd_814 wd_6 wd_815 (by decide +kernel) ⟨by decide, by decide⟩ hW hS rfl hl.1.1 (by simp only [List.map_cons, List.map_nil, va_rf_cat, z_icat, List.sum_cons, List.sum_nil]; decide) rfl ⟨(by show cells + 0 + 0 ≤ 600000; omega), (by show slots + 0 + 0 ≤ 7302249; omega)⟩ dL_law_447 (fun H locs hW hS => ?_)
                        refine W.eq (g2 := F0 m 450 ls [.int q87.1, .int q82.1]) rfl ?_
                        refine lv_icmp_eq (tgt := 468) hx hb dL_law_450 (by decide) (fun c88 => ?_) (fun c88 => ?_)
                        · have hf := oift c88 hf
                          refine W.widen (k := cells + 8) (n := slots + 256) (by show cells + 0 + 0 ≤ cells + 8; omega) (by show slots + 0 + 0 ≤ slots + 256; omega) ?_
                          exact kL_law_b468 C0 F cells slots (fL_law_b18 N L xs n) (fun l1 l2 l3 h hf H locs ls hl hW hS => ih (cells + 8) (slots + 256) l1 l2 l3 h (by omega) (by omega) hf H locs ls hl hW hS) l1 l2 l3 q87.2 hf H locs ls (z_sub hl [0, 1, 2, 3] rfl) hW hS
                        · have hf := oiff c88 hf
                          refine lv_iconst (v := 0) hx hb dL_law_453 (by decide) ?_
                          exact absurd (oret hf).1 (by decide)
                      · have hf := oiff c77 hf
                        by_cases c89 : (v2 &&& 15) = 9
                        · have hf := oift c89 hf
                          refine zl_tab hx hb (9) (422) (tgt := 455) dL_law_33 (by rw [c89]; decide) (by decide) ?_
                          refine zw_aload_n hx hb dL_law_455 rfl (lv_at hl.1 1 rfl) ?_
                          obtain ⟨a990, j90, hf⟩ := ob hf
                          obtain ⟨q90, e90, hf⟩ := ob hf
                          refine zw_callV (rest := []) (n := 0) F (kX8_looked (r := q90.1) (h' := q90.2) l D s.heap.size l1 h e90) 8 rfl (by decide) j90 wd_578 wd_579 wd_580 wd_1 wd_581 (by decide +kernel) ⟨by decide, by decide⟩ hW hS rfl hl.1.1 (by decide) rfl ⟨(by show cells + 0 ≤ 600000; omega), (by show slots + 0 ≤ 7302249; omega)⟩ dL_law_456 (fun H locs hW hS => ?_)
                          refine W.eq (g2 := F0 m 459 ls [.int q90.1]) rfl ?_
                          refine zw_aload_n hx hb dL_law_459 rfl (lv_at hl.1 2 rfl) ?_
                          obtain ⟨a991, j91, hf⟩ := ob hf
                          obtain ⟨q91, e91, hf⟩ := ob hf
                          refine zw_callV (rest := [.int q90.1]) (n := 0) F (kX9_looked (r := q91.1) (h' := q91.2) l D s.heap.size l2 q90.2 e91) 9 rfl (by decide) j91 wd_816 wd_817 wd_818 wd_6 wd_819 (by decide +kernel) ⟨by decide, by decide⟩ hW hS rfl hl.1.1 (by simp only [List.map_cons, List.map_nil, va_rf_cat, z_icat, List.sum_cons, List.sum_nil]; decide) rfl ⟨(by show cells + 0 + 0 ≤ 600000; omega), (by show slots + 0 + 0 ≤ 7302249; omega)⟩ dL_law_460 (fun H locs hW hS => ?_)
                          refine W.eq (g2 := F0 m 463 ls [.int q91.1, .int q90.1]) rfl ?_
                          refine lv_icmp_eq (tgt := 468) hx hb dL_law_463 (by decide) (fun c92 => ?_) (fun c92 => ?_)
                          · have hf := oift c92 hf
                            refine W.widen (k := cells + 8) (n := slots + 256) (by show cells + 0 + 0 ≤ cells + 8; omega) (by show slots + 0 + 0 ≤ slots + 256; omega) ?_
                            exact kL_law_b468 C0 F cells slots (fL_law_b18 N L xs n) (fun l1 l2 l3 h hf H locs ls hl hW hS => ih (cells + 8) (slots + 256) l1 l2 l3 h (by omega) (by omega) hf H locs ls hl hW hS) l1 l2 l3 q91.2 hf H locs ls (z_sub hl [0, 1, 2, 3] rfl) hW hS
                          · have hf := oiff c92 hf
                            refine lv_iconst (v := 0) hx hb dL_law_466 (by decide) ?_
                            exact absurd (oret hf).1 (by decide)
                        · have hf := oiff c89 hf
                          refine zl_tabD hx hb [0, 1, 2, 3, 4, 5, 6, 7, 8, 9] (tgt := 468) dL_law_33 (fun k hk => by simp only [List.mem_cons, List.not_mem_nil, or_false] at hk; rcases hk with rfl | rfl | rfl | rfl | rfl | rfl | rfl | rfl | rfl | rfl <;> first | exact lv_neT c3 (by decide) | exact lv_neT c9 (by decide) | exact lv_neT c17 (by decide) | exact lv_neT c29 (by decide) | exact lv_neT c37 (by decide) | exact lv_neT c45 (by decide) | exact lv_neT c57 (by decide) | exact lv_neT c71 (by decide) | exact lv_neT c77 (by decide) | exact lv_neT c89 (by decide)) (by decide) ?_
                          refine W.widen (k := cells + 8) (n := slots + 256) (by show cells ≤ cells + 8; omega) (by show slots ≤ slots + 256; omega) ?_
                          exact kL_law_b468 C0 F cells slots (fL_law_b18 N L xs n) (fun l1 l2 l3 h hf H locs ls hl hW hS => ih (cells + 8) (slots + 256) l1 l2 l3 h (by omega) (by omega) hf H locs ls hl hW hS) l1 l2 l3 h hf H locs ls (z_sub hl [0, 1, 2, 3] rfl) hW hS
set_option maxRecDepth 100000 in
set_option maxHeartbeats 4000000 in
theorem kL_law (N M : Nat) (hNN : M ≤ 600) (C0 : lw_At p s m meth c b L xs) (F : zF p s m #[Value.ref b] meth c cL_law 4 RL ret) {h' : zH} (h : zH) (hf : fL_law N M L xs h = some (1, h')) (H : Heap) (locs : List Loc) (ls : Array Slot) (hl : zhas ls 4 [(0, va_rf (some b))]) (hW : z_W D s.heap.size s h H) (hS : va_S (zA s.heap.size) s.heap H locs) : W p l e room_1 s m #[Value.ref b] below meth c H locs 0 0 (lw_Z below #[Value.ref b] s) (F0 m 0 ls []) := by
  obtain ⟨hx, hb, hml, hown, hts, hret, hlk, hZ⟩ := id F
  obtain ⟨-, -, -, -, -, -, hX, hbl, -, -⟩ := id C0
  have hbA : ¬ (zA s.heap.size) b := Nat.not_le.mpr hbl
  unfold fL_law at hf
  refine zw_nO hx hb hts inX8 tyX8 tyX8_ok hown (hts _ wd_13) (hts _ wd_14) (hts _ wd_1) hW hS (ci := 8) rfl (by decide) zdX8 (by show 0 + 1 ≤ 600000; omega) (by show 0 + 2 ≤ 7302249; omega) dL_law_0 (fun H hW hS => ?_)
  refine lv_dup hx hb dL_law_3 (va_rf_cat _) ?_
  obtain ⟨h93, e93, hf⟩ := ob hf
  refine zw_callI (rest := [va_rf (some (zs h))]) (n := 0) F (kX8_init l D s.heap.size (some (zs h)) (nwO 8 h) e93) rfl wd_15 wd_16 wd_1 wd_17 rfl (by decide +kernel) ⟨by decide, by decide⟩ hW hS rfl hl.1.1 (by simp only [List.map_cons, List.map_nil, va_rf_cat, z_icat, List.sum_cons, List.sum_nil]; decide) rfl ⟨(by show 0 + 1 + 7 ≤ 600000; omega), (by show 0 + 2 + 125 ≤ 7302249; omega)⟩ dL_law_4 (fun H locs hW hS => ?_)
  refine W.eq (g2 := F0 m 7 ls [va_rf (some (zs h))]) rfl ?_
  refine zl_astore_n (lv' := [(1, va_rf (some (zs h))), (0, va_rf (some b))]) hx hb dL_law_7 rfl hl (by decide) rfl (fun ls hl => ?_)
  refine zw_nO hx hb hts inX9 tyX9 tyX9_ok hown (hts _ wd_582) (hts _ wd_583) (hts _ wd_6) hW hS (ci := 9) rfl (by decide) zdX9 (by show 0 + 1 + 7 + 1 ≤ 600000; omega) (by show 0 + 2 + 125 + 32 ≤ 7302249; omega) dL_law_8 (fun H hW hS => ?_)
  refine lv_dup hx hb dL_law_11 (va_rf_cat _) ?_
  obtain ⟨h94, e94, hf⟩ := ob hf
  refine zw_callI (rest := [va_rf (some (zs h93))]) (n := 0) F (kX9_init l D s.heap.size (some (zs h93)) (nwO 9 h93) e94) rfl wd_584 wd_585 wd_6 wd_586 rfl (by decide +kernel) ⟨by decide, by decide⟩ hW hS rfl hl.1.1 (by simp only [List.map_cons, List.map_nil, va_rf_cat, z_icat, List.sum_cons, List.sum_nil]; decide) rfl ⟨(by show 0 + 1 + 7 + 1 + 26 ≤ 600000; omega), (by show 0 + 2 + 125 + 32 + 209236 ≤ 7302249; omega)⟩ dL_law_12 (fun H locs hW hS => ?_)
  refine W.eq (g2 := F0 m 15 ls [va_rf (some (zs h93))]) rfl ?_
  refine zl_astore_n (lv' := [(2, va_rf (some (zs h93))), (1, va_rf (some (zs h))), (0, va_rf (some b))]) hx hb dL_law_15 rfl hl (by decide) rfl (fun ls hl => ?_)
  refine lv_iconst (v := 0) hx hb dL_law_16 (by decide) ?_
  refine zl_istore_n (lv' := [(3, .int 0), (2, va_rf (some (zs h93))), (1, va_rf (some (zs h))), (0, va_rf (some b))]) hx hb dL_law_17 rfl hl (by decide) rfl (fun ls hl => ?_)
  exact kL_law_b18 N C0 F M (0 + 1 + 7 + 1 + 26) (0 + 2 + 125 + 32 + 209236) (some (zs h)) (some (zs h93)) 0 h94 (by omega) (by omega) hf H locs ls (z_sub hl [3, 2, 1, 0] rfl) hW hS
end
