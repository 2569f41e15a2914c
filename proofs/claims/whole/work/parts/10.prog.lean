/-! The programs on the pure heap, method by method, block by block: printed by wip/whole/tools/gen.py out of the decode rows. -/
abbrev rmX0_init : Room := { frames := 1, cells := 0, slots := 0, locals := 21 }
def fX0_init (a0 : Option Nat) (a1 : Int32) (a2 : Int32) (a3 : Int32) (a4 : Int32) (h : zH) : Option (zH) :=
  (rc 0 a0 h).bind fun _ =>
  (pI 0 0 a0 a1 h).bind fun h2 =>
  (pI 0 1 a0 a2 h2).bind fun h3 =>
  (pI 0 2 a0 a3 h3).bind fun h4 =>
  (pI 0 3 a0 a4 h4).bind fun h5 =>
  some h5
abbrev rmX0_covers : Room := { frames := 0, cells := 0, slots := 0, locals := 0 }
def fX0_covers (a0 : Option Nat) (a1 : Int32) (h : zH) : Option (Int32 × zH) :=
  (gI 0 0 a0 h).bind fun v1 =>
  if a1 < v1 then (some (0, h))
  else ((gI 0 1 a0 h).bind fun v3 =>
    if v3 ≤ a1 then (some (0, h))
    else (some (1, h)))
abbrev rmX4_init : Room := { frames := 1, cells := 1, slots := 12, locals := 21 }
def fX4_init (a0 : Option Nat) (h : zH) : Option (zH) :=
  (rc 4 a0 h).bind fun _ =>
  (pR 4 0 a0 (some (zs h)) (nwA 100 12 h)).bind fun h2 =>
  some h2
abbrev rmX1_init : Room := { frames := 2, cells := 2, slots := 16, locals := 41 }
def fX1_init (a0 : Option Nat) (a1 : Int32) (a2 : Int32) (a3 : Int32) (h : zH) : Option (zH) :=
  (rc 1 a0 h).bind fun _ =>
  (fX4_init (some (zs h)) (nwO 4 h)).bind fun h2 =>
  (pR 1 3 a0 (some (zs h)) h2).bind fun h3 =>
  (pI 1 0 a0 a1 h3).bind fun h4 =>
  (pI 1 1 a0 a2 h4).bind fun h5 =>
  (pI 1 2 a0 a3 h5).bind fun h6 =>
  some h6
abbrev rmX1_isJump : Room := { frames := 0, cells := 0, slots := 0, locals := 0 }
def fX1_isJump (a0 : Option Nat) (h : zH) : Option (Int32 × zH) :=
  (gI 1 0 a0 h).bind fun v1 =>
  if v1 < 19 then (some (0, h))
  else ((gI 1 0 a0 h).bind fun v3 =>
    if 25 < v3 then (some (0, h))
    else (some (1, h)))
abbrev rmX1_goesOnBehind : Room := { frames := 0, cells := 0, slots := 0, locals := 0 }
def fX1_goesOnBehind (a0 : Option Nat) (h : zH) : Option (Int32 × zH) :=
  (gI 1 0 a0 h).bind fun v1 =>
  if v1 = 25 then (some (0, h))
  else ((gI 1 0 a0 h).bind fun v3 =>
    if v3 = 37 then (some (0, h))
    else ((gI 1 0 a0 h).bind fun v5 =>
      if v5 = 38 then (some (0, h))
      else ((gI 1 0 a0 h).bind fun v7 =>
        if v7 = 39 then (some (0, h))
        else (some (1, h)))))
abbrev rmJ7_fill_53178 : Room := { frames := 0, cells := 0, slots := 0, locals := 0 }
def fJ7_fill_53178_b5 (N : Nat) : Nat → Option Nat → Int32 → Int32 → Int32 → zH → Option (zH)
  | 0, _, _, _, _, _ => none
  | n + 1, l0, l1, l2, l3, h =>
  if l3 ≤ l2 then (some h)
  else ((sI l0 l2 l1 h).bind fun h2 =>
    fJ7_fill_53178_b5 N n l0 l1 (l2 + 1) l3 h2)
def fJ7_fill_53178 (N : Nat) (a0 : Option Nat) (a1 : Int32) (h : zH) : Option (zH) :=
  (lA 100 a0 h).bind fun v1 =>
  fJ7_fill_53178_b5 N N a0 a1 0 v1 h
abbrev rmX2_init : Room := { frames := 1, cells := 2, slots := 31, locals := 23 }
def fX2_init_b98 (N : Nat) : Nat → Option Nat → Option Nat → Int32 → zH → Option (zH)
  | 0, _, _, _, _ => none
  | n + 1, l0, l2, l4, h =>
  if 16 ≤ l4 then (some h)
  else ((gR 2 3 l0 h).bind fun v2 =>
    (gR 2 3 l2 h).bind fun v3 =>
    (aI 100 v3 l4 h).bind fun v4 =>
    (sI v2 l4 v4 h).bind fun h5 =>
    fX2_init_b98 N n l0 l2 (l4 + 1) h5)
def fX2_init_b68 (N : Nat) : Nat → Option Nat → Option Nat → Int32 → zH → Option (zH)
  | 0, _, _, _, _ => none
  | n + 1, l0, l2, l4, h =>
  if 15 ≤ l4 then (fX2_init_b98 N N l0 l2 0 h)
  else ((gR 2 2 l0 h).bind fun v2 =>
    (gR 2 2 l2 h).bind fun v3 =>
    (aI 100 v3 l4 h).bind fun v4 =>
    (sI v2 l4 v4 h).bind fun h5 =>
    fX2_init_b68 N n l0 l2 (l4 + 1) h5)
def fX2_init (N : Nat) (a0 : Option Nat) (a1 : Int32) (a2 : Option Nat) (h : zH) : Option (zH) :=
  (rc 2 a0 h).bind fun _ =>
  (pR 2 2 a0 (some (zs h)) (nwA 100 15 h)).bind fun h2 =>
  (pR 2 3 a0 (some (zs h2)) (nwA 100 16 h2)).bind fun h3 =>
  (pI 2 0 a0 a1 h3).bind fun h4 =>
  if a2 = none then ((pI 2 1 a0 (1 <<< (a1 &&& 31)) h4).bind fun h10 =>
    (gR 2 3 a0 h10).bind fun v11 =>
    (fJ7_fill_53178 N v11 (-1) h10).bind fun h12 =>
    some h12)
  else ((gI 2 1 a2 h4).bind fun v6 =>
    (pI 2 1 a0 (v6 ||| (1 <<< (a1 &&& 31))) h4).bind fun h7 =>
    (gI 2 4 a2 h7).bind fun v8 =>
    (pI 2 4 a0 v8 h7).bind fun h9 =>
    fX2_init_b68 N N a0 a2 0 h9)
abbrev rmX2_asType : Room := { frames := 0, cells := 0, slots := 0, locals := 0 }
def fX2_asType (a0 : Option Nat) (h : zH) : Option (Int32 × zH) :=
  (gI 2 0 a0 h).bind fun v1 =>
  some ((1 + v1), h)
abbrev rmX2_isOrIsUnder : Room := { frames := 0, cells := 0, slots := 0, locals := 0 }
def fX2_isOrIsUnder (a0 : Option Nat) (a1 : Int32) (h : zH) : Option (Int32 × zH) :=
  (gI 2 1 a0 h).bind fun v1 =>
  if (((Int32.toUInt32 v1 >>> (Int32.toUInt32 a1 &&& Int32.toUInt32 31)).toInt32) &&& 1) = 0 then (some (0, h))
  else (some (1, h))
abbrev rmX2_addField : Room := { frames := 0, cells := 0, slots := 0, locals := 0 }
def fX2_addField (a0 : Option Nat) (a1 : Int32) (h : zH) : Option (Int32 × zH) :=
  (gI 2 4 a0 h).bind fun v1 =>
  if v1 < 15 then ((gR 2 2 a0 h).bind fun v3 =>
    (gI 2 4 a0 h).bind fun v4 =>
    (sI v3 v4 a1 h).bind fun h5 =>
    (gI 2 4 a0 h5).bind fun v6 =>
    (pI 2 4 a0 (v6 + 1) h5).bind fun h7 =>
    (gI 2 4 a0 h7).bind fun v8 =>
    some ((v8 - 1), h7))
  else (some ((-2), h))
abbrev rmX2_fieldType : Room := { frames := 0, cells := 0, slots := 0, locals := 0 }
def fX2_fieldType (a0 : Option Nat) (a1 : Int32) (h : zH) : Option (Int32 × zH) :=
  if a1 < 0 then (some ((-1), h))
  else ((gI 2 4 a0 h).bind fun v2 =>
    if v2 ≤ a1 then (some ((-1), h))
    else (if 15 ≤ a1 then (some ((-1), h))
      else ((gR 2 2 a0 h).bind fun v5 =>
        (aI 100 v5 a1 h).bind fun v6 =>
        some (v6, h))))
abbrev rmX2_inSlot : Room := { frames := 0, cells := 0, slots := 0, locals := 0 }
def fX2_inSlot (a0 : Option Nat) (a1 : Int32) (h : zH) : Option (Int32 × zH) :=
  if a1 < 0 then (some ((-1), h))
  else (if 16 ≤ a1 then (some ((-1), h))
    else ((gR 2 3 a0 h).bind fun v3 =>
      (aI 100 v3 a1 h).bind fun v4 =>
      some (v4, h)))
abbrev rmX3_init : Room := { frames := 1, cells := 3, slots := 216, locals := 21 }
def fX3_init (a0 : Option Nat) (a1 : Option Nat) (a2 : Int32) (a3 : Int32) (a4 : Int32) (h : zH) : Option (zH) :=
  (rc 3 a0 h).bind fun _ =>
  (pR 3 4 a0 (some (zs h)) (nwA 100 8 h)).bind fun h2 =>
  (pR 3 5 a0 (some (zs h2)) (nwA 103 200 h2)).bind fun h3 =>
  (pR 3 6 a0 (some (zs h3)) (nwA 102 8 h3)).bind fun h4 =>
  (pR 3 0 a0 a1 h4).bind fun h5 =>
  (pI 3 1 a0 a2 h5).bind fun h6 =>
  (pI 3 2 a0 a3 h6).bind fun h7 =>
  (pI 3 3 a0 a4 h7).bind fun h8 =>
  if a1 = none then (some h8)
  else ((gR 3 4 a0 h8).bind fun v10 =>
    (rc 2 a1 h8).bind fun _ =>
    (fX2_asType a1 h8).bind fun q11 =>
    (sI v10 0 q11.1 q11.2).bind fun h12 =>
    (pI 3 7 a0 1 h12).bind fun h13 =>
    some h13)
abbrev rmX3_isOpenForParameters : Room := { frames := 0, cells := 0, slots := 0, locals := 0 }
def fX3_isOpenForParameters (a0 : Option Nat) (h : zH) : Option (Int32 × zH) :=
  (gI 3 7 a0 h).bind fun v1 =>
  (gI 3 2 a0 h).bind fun v2 =>
  if v2 ≤ v1 then (some (0, h))
  else ((gI 3 7 a0 h).bind fun v4 =>
    if 8 ≤ v4 then (some (0, h))
    else ((gI 3 8 a0 h).bind fun v6 =>
      if v6 = 0 then ((gI 3 10 a0 h).bind fun v8 =>
        if v8 = 0 then (some (1, h))
        else (some (0, h)))
      else (some (0, h))))
abbrev rmX3_addParameter : Room := { frames := 0, cells := 0, slots := 0, locals := 0 }
def fX3_addParameter (a0 : Option Nat) (a1 : Int32) (h : zH) : Option (Int32 × zH) :=
  (gI 3 7 a0 h).bind fun v1 =>
  if v1 < 8 then ((gR 3 4 a0 h).bind fun v3 =>
    (gI 3 7 a0 h).bind fun v4 =>
    (sI v3 v4 a1 h).bind fun h5 =>
    (gI 3 7 a0 h5).bind fun v6 =>
    (pI 3 7 a0 (v6 + 1) h5).bind fun h7 =>
    (pZ 3 11 a0 0 h7).bind fun h8 =>
    (gI 3 7 a0 h8).bind fun v9 =>
    some (v9, h8))
  else (some ((-1), h))
abbrev rmX3_parameterAt : Room := { frames := 0, cells := 0, slots := 0, locals := 0 }
def fX3_parameterAt (a0 : Option Nat) (a1 : Int32) (h : zH) : Option (Int32 × zH) :=
  if a1 < 0 then (some ((-1), h))
  else ((gI 3 7 a0 h).bind fun v2 =>
    if v2 ≤ a1 then (some ((-1), h))
    else (if 8 ≤ a1 then (some ((-1), h))
      else ((gR 3 4 a0 h).bind fun v5 =>
        (aI 100 v5 a1 h).bind fun v6 =>
        some (v6, h))))
abbrev rmX3_isCalledLike : Room := { frames := 1, cells := 0, slots := 0, locals := 21 }
def fX3_isCalledLike_b26 (N : Nat) : Nat → Option Nat → Option Nat → Int32 → zH → Option (Int32 × zH)
  | 0, _, _, _, _ => none
  | n + 1, l0, l1, l2, h =>
  (gI 3 7 l0 h).bind fun v1 =>
  if v1 ≤ l2 then (some (1, h))
  else ((rc 3 l0 h).bind fun _ =>
    (fX3_parameterAt l0 l2 h).bind fun q3 =>
    (rc 3 l1 q3.2).bind fun _ =>
    (fX3_parameterAt l1 l2 q3.2).bind fun q4 =>
    if q3.1 = q4.1 then (fX3_isCalledLike_b26 N n l0 l1 (l2 + 1) q4.2)
    else (some (0, q4.2)))
def fX3_isCalledLike (N : Nat) (a0 : Option Nat) (a1 : Option Nat) (h : zH) : Option (Int32 × zH) :=
  (gI 3 1 a0 h).bind fun v1 =>
  (gI 3 1 a1 h).bind fun v2 =>
  if v1 = v2 then ((gI 3 7 a0 h).bind fun v4 =>
    (gI 3 7 a1 h).bind fun v5 =>
    if v4 = v5 then (fX3_isCalledLike_b26 N N a0 a1 1 h)
    else (some (0, h)))
  else (some (0, h))
abbrev rmX3_addInstruction : Room := { frames := 3, cells := 3, slots := 22, locals := 64 }
def fX3_addInstruction (a0 : Option Nat) (a1 : Int32) (a2 : Int32) (a3 : Int32) (h : zH) : Option (Int32 × zH) :=
  (gI 3 8 a0 h).bind fun v1 =>
  if v1 < 200 then ((gR 3 5 a0 h).bind fun v3 =>
    (gI 3 8 a0 h).bind fun v4 =>
    (fX1_init (some (zs h)) a1 a2 a3 (nwO 1 h)).bind fun h5 =>
    (sQ 1 v3 v4 (some (zs h)) h5).bind fun h6 =>
    (gI 3 8 a0 h6).bind fun v7 =>
    (pI 3 8 a0 (v7 + 1) h6).bind fun h8 =>
    (pZ 3 11 a0 0 h8).bind fun h9 =>
    (gI 3 8 a0 h9).bind fun v10 =>
    some ((v10 - 1), h9))
  else (some ((-2), h))
abbrev rmX3_instructionAt : Room := { frames := 0, cells := 0, slots := 0, locals := 0 }
def fX3_instructionAt (a0 : Option Nat) (a1 : Int32) (h : zH) : Option (Option Nat × zH) :=
  if a1 < 0 then (some (none, h))
  else ((gI 3 8 a0 h).bind fun v2 =>
    if v2 ≤ a1 then (some (none, h))
    else (if 200 ≤ a1 then (some (none, h))
      else ((gR 3 5 a0 h).bind fun v5 =>
        (aQ 103 v5 a1 h).bind fun v6 =>
        some (v6, h))))
abbrev rmX3_addHandler : Room := { frames := 2, cells := 1, slots := 4, locals := 45 }
def fX3_addHandler (a0 : Option Nat) (a1 : Int32) (a2 : Int32) (a3 : Int32) (a4 : Int32) (h : zH) : Option (Int32 × zH) :=
  (gI 3 9 a0 h).bind fun v1 =>
  if v1 < 8 then ((gR 3 6 a0 h).bind fun v3 =>
    (gI 3 9 a0 h).bind fun v4 =>
    (fX0_init (some (zs h)) a1 a2 a3 a4 (nwO 0 h)).bind fun h5 =>
    (sQ 0 v3 v4 (some (zs h)) h5).bind fun h6 =>
    (gI 3 9 a0 h6).bind fun v7 =>
    (pI 3 9 a0 (v7 + 1) h6).bind fun h8 =>
    (pZ 3 11 a0 0 h8).bind fun h9 =>
    (gI 3 9 a0 h9).bind fun v10 =>
    some ((v10 - 1), h9))
  else (some ((-2), h))
abbrev rmX3_handlerAt : Room := { frames := 0, cells := 0, slots := 0, locals := 0 }
def fX3_handlerAt (a0 : Option Nat) (a1 : Int32) (h : zH) : Option (Option Nat × zH) :=
  if a1 < 0 then (some (none, h))
  else ((gI 3 9 a0 h).bind fun v2 =>
    if v2 ≤ a1 then (some (none, h))
    else (if 8 ≤ a1 then (some (none, h))
      else ((gR 3 6 a0 h).bind fun v5 =>
        (aQ 102 v5 a1 h).bind fun v6 =>
        some (v6, h))))
abbrev rmX4_begin : Room := { frames := 1, cells := 0, slots := 0, locals := 21 }
def fX4_begin_b60 (N : Nat) (k23 : Option Nat → Option Nat → Int32 → zH → Option (zH)) (l0 : Option Nat) (l1 : Option Nat) (l2 : Int32) (s0 : Int32) (s1 : Int32) (s2 : Option Nat) (h : zH) : Option (zH) :=
  (sI s2 s1 s0 h).bind fun h1 =>
  k23 l0 l1 (l2 + 1) h1
def fX4_begin_b23 (N : Nat) : Nat → Option Nat → Option Nat → Int32 → zH → Option (zH)
  | 0, _, _, _, _ => none
  | n + 1, l0, l1, l2, h =>
  (gI 4 1 l0 h).bind fun v1 =>
  if v1 ≤ l2 then (some h)
  else (if 12 ≤ l2 then (some h)
    else ((gR 4 0 l0 h).bind fun v4 =>
      (gI 3 7 l1 h).bind fun v5 =>
      if v5 ≤ l2 then (fX4_begin_b60 N (fX4_begin_b23 N n) l0 l1 l2 99 l2 v4 h)
      else ((rc 3 l1 h).bind fun _ =>
        (fX3_parameterAt l1 l2 h).bind fun q7 =>
        fX4_begin_b60 N (fX4_begin_b23 N n) l0 l1 l2 q7.1 l2 v4 q7.2)))
def fX4_begin (N : Nat) (a0 : Option Nat) (a1 : Option Nat) (h : zH) : Option (zH) :=
  (gI 3 2 a1 h).bind fun v1 =>
  (pI 4 1 a0 v1 h).bind fun h2 =>
  (gI 3 3 a1 h2).bind fun v3 =>
  (pI 4 2 a0 v3 h2).bind fun h4 =>
  (pI 4 3 a0 0 h4).bind fun h5 =>
  fX4_begin_b23 N N a0 a1 0 h5
abbrev rmX4_copy : Room := { frames := 0, cells := 0, slots := 0, locals := 0 }
def fX4_copy_b26 (N : Nat) : Nat → Option Nat → Option Nat → Int32 → zH → Option (zH)
  | 0, _, _, _, _ => none
  | n + 1, l0, l1, l2, h =>
  if 12 ≤ l2 then (some h)
  else ((gR 4 0 l0 h).bind fun v2 =>
    (gR 4 0 l1 h).bind fun v3 =>
    (aI 100 v3 l2 h).bind fun v4 =>
    (sI v2 l2 v4 h).bind fun h5 =>
    fX4_copy_b26 N n l0 l1 (l2 + 1) h5)
def fX4_copy (N : Nat) (a0 : Option Nat) (a1 : Option Nat) (h : zH) : Option (zH) :=
  (gI 4 1 a1 h).bind fun v1 =>
  (pI 4 1 a0 v1 h).bind fun h2 =>
  (gI 4 2 a1 h2).bind fun v3 =>
  (pI 4 2 a0 v3 h2).bind fun h4 =>
  (gI 4 3 a1 h4).bind fun v5 =>
  (pI 4 3 a0 v5 h4).bind fun h6 =>
  fX4_copy_b26 N N a0 a1 0 h6
abbrev rmX4_localAt : Room := { frames := 0, cells := 0, slots := 0, locals := 0 }
def fX4_localAt (a0 : Option Nat) (a1 : Int32) (h : zH) : Option (Int32 × zH) :=
  if a1 < 0 then (some ((-1), h))
  else ((gI 4 1 a0 h).bind fun v2 =>
    if v2 ≤ a1 then (some ((-1), h))
    else (if 12 ≤ a1 then (some ((-1), h))
      else ((gR 4 0 a0 h).bind fun v5 =>
        (aI 100 v5 a1 h).bind fun v6 =>
        some (v6, h))))
abbrev rmX4_setLocal : Room := { frames := 0, cells := 0, slots := 0, locals := 0 }
def fX4_setLocal (a0 : Option Nat) (a1 : Int32) (a2 : Int32) (h : zH) : Option (zH) :=
  if a1 < 0 then (some h)
  else ((gI 4 1 a0 h).bind fun v2 =>
    if v2 ≤ a1 then (some h)
    else (if 12 ≤ a1 then (some h)
      else ((gR 4 0 a0 h).bind fun v5 =>
        (sI v5 a1 a2 h).bind fun h6 =>
        some h6)))
abbrev rmX4_placeAt : Room := { frames := 0, cells := 0, slots := 0, locals := 0 }
def fX4_placeAt (a0 : Option Nat) (a1 : Int32) (h : zH) : Option (Int32 × zH) :=
  if a1 < 0 then (some ((-1), h))
  else ((gI 4 3 a0 h).bind fun v2 =>
    if a1 < v2 then ((gI 4 1 a0 h).bind fun v4 =>
      if (v4 + a1) < 0 then (some ((-1), h))
      else (if 12 ≤ (v4 + a1) then (some ((-1), h))
        else ((gR 4 0 a0 h).bind fun v7 =>
          (aI 100 v7 (v4 + a1) h).bind fun v8 =>
          some (v8, h))))
    else (some ((-1), h)))
abbrev rmX4_put : Room := { frames := 0, cells := 0, slots := 0, locals := 0 }
def fX4_put (a0 : Option Nat) (a1 : Int32) (h : zH) : Option (Int32 × zH) :=
  (gI 4 1 a0 h).bind fun v1 =>
  (gI 4 3 a0 h).bind fun v2 =>
  (gI 4 3 a0 h).bind fun v3 =>
  (gI 4 2 a0 h).bind fun v4 =>
  if v4 ≤ v3 then (some (0, h))
  else (if (v1 + v2) < 0 then (some (0, h))
    else (if (v1 + v2) < 12 then ((gR 4 0 a0 h).bind fun v8 =>
        (sI v8 (v1 + v2) a1 h).bind fun h9 =>
        (gI 4 3 a0 h9).bind fun v10 =>
        (pI 4 3 a0 (v10 + 1) h9).bind fun h11 =>
        some (1, h11))
      else (some (0, h))))
abbrev rmX8_isReference : Room := { frames := 0, cells := 0, slots := 0, locals := 0 }
def fX8_isReference (a0 : Int32) (h : zH) : Option (Int32 × zH) :=
  if a0 ≤ 0 then (some (0, h))
  else (if 99 ≤ a0 then (some (0, h))
    else (some (1, h)))
abbrev rmX6_kindOf : Room := { frames := 0, cells := 0, slots := 0, locals := 0 }
def fX6_kindOf (a0 : Option Nat) (a1 : Int32) (h : zH) : Option (Option Nat × zH) :=
  if (a1 - 1) < 0 then (some (none, h))
  else ((gI 6 2 a0 h).bind fun v2 =>
    if v2 ≤ (a1 - 1) then (some (none, h))
    else (if 32 ≤ (a1 - 1) then (some (none, h))
      else ((gR 6 0 a0 h).bind fun v5 =>
        (aQ 104 v5 (a1 - 1) h).bind fun v6 =>
        some (v6, h))))
abbrev rmX6_lowestAboveBoth : Room := { frames := 0, cells := 0, slots := 0, locals := 0 }
def fX6_lowestAboveBoth_b24 (N : Nat) : Nat → Int32 → Int32 → zH → Option (Int32 × zH)
  | 0, _, _, _ => none
  | n + 1, l2, l3, h =>
  if l3 < 0 then (some (98, h))
  else (if (((Int32.toUInt32 l2 >>> (Int32.toUInt32 l3 &&& Int32.toUInt32 31)).toInt32) &&& 1) = 0 then (fX6_lowestAboveBoth_b24 N n l2 (l3 + (-1)) h)
    else (some ((1 + l3), h)))
def fX6_lowestAboveBoth (N : Nat) (a0 : Option Nat) (a1 : Option Nat) (h : zH) : Option (Int32 × zH) :=
  if a0 = none then (some (98, h))
  else (if a1 = none then (some (98, h))
    else ((gI 2 1 a0 h).bind fun v3 =>
      (gI 2 1 a1 h).bind fun v4 =>
      fX6_lowestAboveBoth_b24 N N (v3 &&& v4) 31 h))
abbrev rmX6_meeting : Room := { frames := 1, cells := 0, slots := 0, locals := 23 }
def fX6_meeting (N : Nat) (a0 : Option Nat) (a1 : Int32) (a2 : Int32) (h : zH) : Option (Int32 × zH) :=
  if a1 = a2 then (some (a1, h))
  else ((fX8_isReference a1 h).bind fun q2 =>
    if q2.1 = 0 then (some (99, q2.2))
    else ((fX8_isReference a2 q2.2).bind fun q4 =>
      if q4.1 = 0 then (some (99, q4.2))
      else (if a1 = 97 then (some (a2, q4.2))
        else (if a2 = 97 then (some (a1, q4.2))
          else ((rc 6 a0 q4.2).bind fun _ =>
            (fX6_kindOf a0 a1 q4.2).bind fun q8 =>
            (rc 6 a0 q8.2).bind fun _ =>
            (fX6_kindOf a0 a2 q8.2).bind fun q9 =>
            (fX6_lowestAboveBoth N q8.1 q9.1 q9.2).bind fun q10 =>
            some (q10.1, q10.2))))))
abbrev rmX4_meet : Room := { frames := 2, cells := 0, slots := 0, locals := 45 }
def fX4_meet_b100 (N : Nat) (k18 : Option Nat → Option Nat → Option Nat → Int32 → Int32 → zH → Option (Int32 × zH)) (l0 : Option Nat) (l1 : Option Nat) (l2 : Option Nat) (l3 : Int32) (l4 : Int32) (h : zH) : Option (Int32 × zH) :=
  k18 l0 l1 l2 l3 (l4 + 1) h
def fX4_meet_b77 (N : Nat) (k18 : Option Nat → Option Nat → Option Nat → Int32 → Int32 → zH → Option (Int32 × zH)) (l0 : Option Nat) (l1 : Option Nat) (l2 : Option Nat) (l3 : Int32) (l4 : Int32) (l5 : Int32) (h : zH) : Option (Int32 × zH) :=
  (gR 4 0 l0 h).bind fun v1 =>
  (aI 100 v1 l4 h).bind fun v2 =>
  if l5 = v2 then (fX4_meet_b100 N k18 l0 l1 l2 l3 l4 h)
  else ((gR 4 0 l0 h).bind fun v4 =>
    (sI v4 l4 l5 h).bind fun h5 =>
    fX4_meet_b100 N k18 l0 l1 l2 1 l4 h5)
def fX4_meet_b18 (N : Nat) : Nat → Option Nat → Option Nat → Option Nat → Int32 → Int32 → zH → Option (Int32 × zH)
  | 0, _, _, _, _, _, _ => none
  | n + 1, l0, l1, l2, l3, l4, h =>
  (gI 4 1 l0 h).bind fun v1 =>
  (gI 4 3 l0 h).bind fun v2 =>
  if (v1 + v2) ≤ l4 then (some (l3, h))
  else (if 12 ≤ l4 then (some (l3, h))
    else ((gR 4 0 l0 h).bind fun v5 =>
      (aI 100 v5 l4 h).bind fun v6 =>
      (gR 4 0 l1 h).bind fun v7 =>
      (aI 100 v7 l4 h).bind fun v8 =>
      (rc 6 l2 h).bind fun _ =>
      (fX6_meeting N l2 v6 v8 h).bind fun q9 =>
      (gI 4 1 l0 q9.2).bind fun v10 =>
      if l4 < v10 then (fX4_meet_b77 N (fX4_meet_b18 N n) l0 l1 l2 l3 l4 q9.1 q9.2)
      else (if q9.1 = 99 then (some (2, q9.2))
        else (fX4_meet_b77 N (fX4_meet_b18 N n) l0 l1 l2 l3 l4 q9.1 q9.2))))
def fX4_meet (N : Nat) (a0 : Option Nat) (a1 : Option Nat) (a2 : Option Nat) (h : zH) : Option (Int32 × zH) :=
  (gI 4 3 a0 h).bind fun v1 =>
  (gI 4 3 a1 h).bind fun v2 =>
  if v1 = v2 then (fX4_meet_b18 N N a0 a1 a2 0 0 h)
  else (some (2, h))
abbrev rmX5_init : Room := { frames := 1, cells := 0, slots := 0, locals := 21 }
def fX5_init (a0 : Option Nat) (a1 : Option Nat) (a2 : Option Nat) (h : zH) : Option (zH) :=
  (rc 5 a0 h).bind fun _ =>
  (pR 5 0 a0 a1 h).bind fun h2 =>
  (pR 5 1 a0 a2 h2).bind fun h3 =>
  some h3
abbrev rmX5_need : Room := { frames := 0, cells := 0, slots := 0, locals := 0 }
def fX5_need_b17 (s0 : Int32) (s1 : Option Nat) (h : zH) : Option (zH) :=
  (pZ 5 2 s1 s0 h).bind fun h1 =>
  some h1
def fX5_need_b16 (s0 : Option Nat) (h : zH) : Option (zH) :=
  fX5_need_b17 0 s0 h
def fX5_need (a0 : Option Nat) (a1 : Int32) (h : zH) : Option (zH) :=
  (gI 5 2 a0 h).bind fun v1 =>
  if v1 = 0 then (fX5_need_b16 a0 h)
  else (if a1 = 0 then (fX5_need_b16 a0 h)
    else (fX5_need_b17 1 a0 h))
abbrev rmX5_put : Room := { frames := 1, cells := 0, slots := 0, locals := 22 }
def fX5_put (a0 : Option Nat) (a1 : Int32) (h : zH) : Option (zH) :=
  (gR 5 1 a0 h).bind fun v1 =>
  (rc 4 v1 h).bind fun _ =>
  (fX4_put v1 a1 h).bind fun q2 =>
  (rc 5 a0 q2.2).bind fun _ =>
  (fX5_need a0 q2.1 q2.2).bind fun h3 =>
  some h3
abbrev rmX5_load : Room := { frames := 2, cells := 0, slots := 0, locals := 43 }
def fX5_load_b26 (l0 : Option Nat) (l2 : Int32) (s0 : Int32) (s1 : Option Nat) (h : zH) : Option (zH) :=
  (rc 5 s1 h).bind fun _ =>
  (fX5_need s1 s0 h).bind fun h1 =>
  (rc 5 l0 h1).bind fun _ =>
  (fX5_put l0 l2 h1).bind fun h2 =>
  some h2
def fX5_load_b25 (l0 : Option Nat) (l2 : Int32) (s0 : Option Nat) (h : zH) : Option (zH) :=
  fX5_load_b26 l0 l2 0 s0 h
def fX5_load (a0 : Option Nat) (a1 : Int32) (h : zH) : Option (zH) :=
  (gR 5 1 a0 h).bind fun v1 =>
  (rc 4 v1 h).bind fun _ =>
  (fX4_localAt v1 a1 h).bind fun q2 =>
  if q2.1 = 99 then (fX5_load_b25 a0 q2.1 a0 q2.2)
  else (if q2.1 = (-1) then (fX5_load_b25 a0 q2.1 a0 q2.2)
    else (fX5_load_b26 a0 q2.1 1 a0 q2.2))
abbrev rmX5_take : Room := { frames := 1, cells := 0, slots := 0, locals := 22 }
def fX5_take (a0 : Option Nat) (h : zH) : Option (Int32 × zH) :=
  (gR 5 1 a0 h).bind fun v1 =>
  (gR 5 1 a0 h).bind fun v2 =>
  (gI 4 3 v2 h).bind fun v3 =>
  (rc 4 v1 h).bind fun _ =>
  (fX4_placeAt v1 (v3 - 1) h).bind fun q4 =>
  if q4.1 = (-1) then ((pZ 5 2 a0 0 q4.2).bind fun h9 =>
    some (q4.1, h9))
  else ((gR 5 1 a0 q4.2).bind fun v6 =>
    (gI 4 3 v6 q4.2).bind fun v7 =>
    (pI 4 3 v6 (v7 - 1) q4.2).bind fun h8 =>
    some (q4.1, h8))
abbrev rmX5_duplicate : Room := { frames := 2, cells := 0, slots := 0, locals := 43 }
def fX5_duplicate (a0 : Option Nat) (h : zH) : Option (zH) :=
  (rc 5 a0 h).bind fun _ =>
  (fX5_take a0 h).bind fun q1 =>
  (rc 5 a0 q1.2).bind fun _ =>
  (fX5_put a0 q1.1 q1.2).bind fun h2 =>
  (rc 5 a0 h2).bind fun _ =>
  (fX5_put a0 q1.1 h2).bind fun h3 =>
  some h3
abbrev rmX5_swap : Room := { frames := 2, cells := 0, slots := 0, locals := 43 }
def fX5_swap (a0 : Option Nat) (h : zH) : Option (zH) :=
  (rc 5 a0 h).bind fun _ =>
  (fX5_take a0 h).bind fun q1 =>
  (rc 5 a0 q1.2).bind fun _ =>
  (fX5_take a0 q1.2).bind fun q2 =>
  (rc 5 a0 q2.2).bind fun _ =>
  (fX5_put a0 q1.1 q2.2).bind fun h3 =>
  (rc 5 a0 h3).bind fun _ =>
  (fX5_put a0 q2.1 h3).bind fun h4 =>
  some h4
abbrev rmX5_move : Room := { frames := 3, cells := 0, slots := 0, locals := 65 }
def fX5_move (a0 : Option Nat) (a1 : Option Nat) (h : zH) : Option (zH) :=
  (gI 1 0 a1 h).bind fun v1 =>
  if v1 = 0 then ((rc 5 a0 h).bind fun _ =>
    (fX5_put a0 0 h).bind fun h3 =>
    some h3)
  else if v1 = 1 then ((rc 5 a0 h).bind fun _ =>
    (fX5_put a0 97 h).bind fun h5 =>
    some h5)
  else if v1 = 2 then ((gI 1 1 a1 h).bind fun v7 =>
    (rc 5 a0 h).bind fun _ =>
    (fX5_load a0 v7 h).bind fun h8 =>
    some h8)
  else if v1 = 3 then ((gR 5 1 a0 h).bind fun v10 =>
    (gI 1 1 a1 h).bind fun v11 =>
    (rc 5 a0 h).bind fun _ =>
    (fX5_take a0 h).bind fun q12 =>
    (rc 4 v10 q12.2).bind fun _ =>
    (fX4_setLocal v10 v11 q12.1 q12.2).bind fun h13 =>
    some h13)
  else if v1 = 4 then ((rc 5 a0 h).bind fun _ =>
    (fX5_take a0 h).bind fun q15 =>
    some q15.2)
  else if v1 = 5 then ((rc 5 a0 h).bind fun _ =>
    (fX5_duplicate a0 h).bind fun h17 =>
    some h17)
  else ((rc 5 a0 h).bind fun _ =>
  (fX5_swap a0 h).bind fun h18 =>
  some h18)
abbrev rmX5_takeInt : Room := { frames := 2, cells := 0, slots := 0, locals := 43 }
def fX5_takeInt_b13 (s0 : Int32) (s1 : Option Nat) (h : zH) : Option (zH) :=
  (rc 5 s1 h).bind fun _ =>
  (fX5_need s1 s0 h).bind fun h1 =>
  some h1
def fX5_takeInt (a0 : Option Nat) (h : zH) : Option (zH) :=
  (rc 5 a0 h).bind fun _ =>
  (fX5_take a0 h).bind fun q1 =>
  if q1.1 = 0 then (fX5_takeInt_b13 1 a0 q1.2)
  else (fX5_takeInt_b13 0 a0 q1.2)
abbrev rmX5_reckon : Room := { frames := 3, cells := 0, slots := 0, locals := 63 }
def fX5_reckon_b14 (l0 : Option Nat) (h : zH) : Option (zH) :=
  (rc 5 l0 h).bind fun _ =>
  (fX5_put l0 0 h).bind fun h1 =>
  some h1
def fX5_reckon (a0 : Option Nat) (a1 : Int32) (h : zH) : Option (zH) :=
  (rc 5 a0 h).bind fun _ =>
  (fX5_takeInt a0 h).bind fun h1 =>
  if 17 < a1 then (fX5_reckon_b14 a0 h1)
  else ((rc 5 a0 h1).bind fun _ =>
    (fX5_takeInt a0 h1).bind fun h3 =>
    fX5_reckon_b14 a0 h3)
abbrev rmX5_takeReference : Room := { frames := 2, cells := 0, slots := 0, locals := 43 }
def fX5_takeReference (a0 : Option Nat) (h : zH) : Option (zH) :=
  (rc 5 a0 h).bind fun _ =>
  (fX5_take a0 h).bind fun q1 =>
  (fX8_isReference q1.1 q1.2).bind fun q2 =>
  (rc 5 a0 q2.2).bind fun _ =>
  (fX5_need a0 q2.1 q2.2).bind fun h3 =>
  some h3
abbrev rmX5_branch : Room := { frames := 3, cells := 0, slots := 0, locals := 63 }
def fX5_branch (a0 : Option Nat) (a1 : Int32) (h : zH) : Option (zH) :=
  if a1 = 19 then ((rc 5 a0 h).bind fun _ =>
    (fX5_takeInt a0 h).bind fun h2 =>
    some h2)
  else if a1 = 20 then ((rc 5 a0 h).bind fun _ =>
    (fX5_takeInt a0 h).bind fun h4 =>
    (rc 5 a0 h4).bind fun _ =>
    (fX5_takeInt a0 h4).bind fun h5 =>
    some h5)
  else if a1 = 21 then ((rc 5 a0 h).bind fun _ =>
    (fX5_takeReference a0 h).bind fun h7 =>
    some h7)
  else if a1 = 22 then ((rc 5 a0 h).bind fun _ =>
    (fX5_takeReference a0 h).bind fun h9 =>
    some h9)
  else if a1 = 23 then ((rc 5 a0 h).bind fun _ =>
    (fX5_takeReference a0 h).bind fun h11 =>
    (rc 5 a0 h11).bind fun _ =>
    (fX5_takeReference a0 h11).bind fun h12 =>
    some h12)
  else if a1 = 24 then ((rc 5 a0 h).bind fun _ =>
    (fX5_takeReference a0 h).bind fun h14 =>
    (rc 5 a0 h14).bind fun _ =>
    (fX5_takeReference a0 h14).bind fun h15 =>
    some h15)
  else (some h)
abbrev rmX6_goesInto : Room := { frames := 1, cells := 0, slots := 0, locals := 22 }
def fX6_goesInto (a0 : Option Nat) (a1 : Int32) (a2 : Int32) (h : zH) : Option (Int32 × zH) :=
  if a1 = a2 then (some (1, h))
  else (if a1 = 97 then ((fX8_isReference a2 h).bind fun q10 =>
      if q10.1 = 0 then (some (0, q10.2))
      else (if a2 = 98 then (some (0, q10.2))
        else (some (1, q10.2))))
    else ((rc 6 a0 h).bind fun _ =>
      (fX6_kindOf a0 a1 h).bind fun q3 =>
      (rc 6 a0 q3.2).bind fun _ =>
      (fX6_kindOf a0 a2 q3.2).bind fun q4 =>
      if q3.1 = none then (some (0, q4.2))
      else (if q4.1 = none then (some (0, q4.2))
        else ((gI 2 0 q4.1 q4.2).bind fun v7 =>
          (rc 2 q3.1 q4.2).bind fun _ =>
          (fX2_isOrIsUnder q3.1 v7 q4.2).bind fun q8 =>
          if q8.1 = 0 then (some (0, q8.2))
          else (some (1, q8.2))))))
abbrev rmX5_takeInto : Room := { frames := 2, cells := 0, slots := 0, locals := 46 }
def fX5_takeInto (a0 : Option Nat) (a1 : Int32) (h : zH) : Option (zH) :=
  (gR 5 0 a0 h).bind fun v1 =>
  (rc 5 a0 h).bind fun _ =>
  (fX5_take a0 h).bind fun q2 =>
  (rc 6 v1 q2.2).bind fun _ =>
  (fX6_goesInto v1 q2.1 a1 q2.2).bind fun q3 =>
  (rc 5 a0 q3.2).bind fun _ =>
  (fX5_need a0 q3.1 q3.2).bind fun h4 =>
  some h4
abbrev rmX6_kindAt : Room := { frames := 0, cells := 0, slots := 0, locals := 0 }
def fX6_kindAt (a0 : Option Nat) (a1 : Int32) (h : zH) : Option (Option Nat × zH) :=
  if a1 < 0 then (some (none, h))
  else ((gI 6 2 a0 h).bind fun v2 =>
    if v2 ≤ a1 then (some (none, h))
    else (if 32 ≤ a1 then (some (none, h))
      else ((gR 6 0 a0 h).bind fun v5 =>
        (aQ 104 v5 a1 h).bind fun v6 =>
        some (v6, h))))
abbrev rmX6_fieldType : Room := { frames := 1, cells := 0, slots := 0, locals := 21 }
def fX6_fieldType (a0 : Option Nat) (a1 : Int32) (a2 : Int32) (h : zH) : Option (Int32 × zH) :=
  (rc 6 a0 h).bind fun _ =>
  (fX6_kindAt a0 a1 h).bind fun q1 =>
  if q1.1 = none then (some ((-1), q1.2))
  else ((rc 2 q1.1 q1.2).bind fun _ =>
    (fX2_fieldType q1.1 a2 q1.2).bind fun q3 =>
    some (q3.1, q3.2))
abbrev rmX5_useObject : Room := { frames := 3, cells := 0, slots := 0, locals := 67 }
def fX5_useObject (a0 : Option Nat) (a1 : Option Nat) (h : zH) : Option (zH) :=
  (gI 1 1 a1 h).bind fun v1 =>
  (gI 1 0 a1 h).bind fun v2 =>
  if v2 = 26 then ((rc 5 a0 h).bind fun _ =>
    (fX5_put a0 (1 + v1) h).bind fun h4 =>
    some h4)
  else if v2 = 27 then ((rc 5 a0 h).bind fun _ =>
    (fX5_takeInto a0 (1 + v1) h).bind fun h6 =>
    (gR 5 0 a0 h6).bind fun v7 =>
    (gI 1 1 a1 h6).bind fun v8 =>
    (gI 1 2 a1 h6).bind fun v9 =>
    (rc 6 v7 h6).bind fun _ =>
    (fX6_fieldType v7 v8 v9 h6).bind fun q10 =>
    (rc 5 a0 q10.2).bind fun _ =>
    (fX5_put a0 q10.1 q10.2).bind fun h11 =>
    some h11)
  else if v2 = 28 then ((gR 5 0 a0 h).bind fun v13 =>
    (gI 1 1 a1 h).bind fun v14 =>
    (gI 1 2 a1 h).bind fun v15 =>
    (rc 6 v13 h).bind fun _ =>
    (fX6_fieldType v13 v14 v15 h).bind fun q16 =>
    (rc 5 a0 q16.2).bind fun _ =>
    (fX5_takeInto a0 q16.1 q16.2).bind fun h17 =>
    (rc 5 a0 h17).bind fun _ =>
    (fX5_takeInto a0 (1 + v1) h17).bind fun h18 =>
    some h18)
  else if v2 = 29 then ((rc 5 a0 h).bind fun _ =>
    (fX5_takeReference a0 h).bind fun h20 =>
    (rc 5 a0 h20).bind fun _ =>
    (fX5_put a0 0 h20).bind fun h21 =>
    some h21)
  else ((rc 5 a0 h).bind fun _ =>
  (fX5_takeReference a0 h).bind fun h22 =>
  (rc 5 a0 h22).bind fun _ =>
  (fX5_put a0 (1 + v1) h22).bind fun h23 =>
  some h23)
abbrev rmX8_rowOf : Room := { frames := 0, cells := 0, slots := 0, locals := 0 }
def fX8_rowOf (a0 : Int32) (h : zH) : Option (Int32 × zH) :=
  some ((64 + a0), h)
abbrev rmX8_isRowType : Room := { frames := 0, cells := 0, slots := 0, locals := 0 }
def fX8_isRowType (a0 : Int32) (h : zH) : Option (Int32 × zH) :=
  if a0 < 64 then (some (0, h))
  else (if 96 < a0 then (some (0, h))
    else (some (1, h)))
abbrev rmX5_takeRow : Room := { frames := 2, cells := 0, slots := 0, locals := 43 }
def fX5_takeRow_b24 (l1 : Int32) (s0 : Int32) (s1 : Option Nat) (h : zH) : Option (Int32 × zH) :=
  (rc 5 s1 h).bind fun _ =>
  (fX5_need s1 s0 h).bind fun h1 =>
  some (l1, h1)
def fX5_takeRow_b19 (l1 : Int32) (s0 : Option Nat) (h : zH) : Option (Int32 × zH) :=
  fX5_takeRow_b24 l1 1 s0 h
def fX5_takeRow (a0 : Option Nat) (h : zH) : Option (Int32 × zH) :=
  (rc 5 a0 h).bind fun _ =>
  (fX5_take a0 h).bind fun q1 =>
  (fX8_isRowType q1.1 q1.2).bind fun q2 =>
  if q2.1 = 0 then (if q1.1 = 97 then (fX5_takeRow_b19 q1.1 a0 q2.2)
    else (fX5_takeRow_b24 q1.1 0 a0 q2.2))
  else (fX5_takeRow_b19 q1.1 a0 q2.2)
abbrev rmX8_elementOf : Room := { frames := 0, cells := 0, slots := 0, locals := 0 }
def fX8_elementOf (a0 : Int32) (h : zH) : Option (Int32 × zH) :=
  some ((a0 - 64), h)
abbrev rmX5_useRow : Room := { frames := 3, cells := 0, slots := 0, locals := 64 }
def fX5_useRow_b138 (s0 : Int32) (s1 : Option Nat) (h : zH) : Option (zH) :=
  (rc 5 s1 h).bind fun _ =>
  (fX5_need s1 s0 h).bind fun h1 =>
  some h1
def fX5_useRow_b133 (s0 : Option Nat) (h : zH) : Option (zH) :=
  fX5_useRow_b138 1 s0 h
def fX5_useRow_b88 (s0 : Int32) (s1 : Option Nat) (h : zH) : Option (zH) :=
  (rc 5 s1 h).bind fun _ =>
  (fX5_put s1 s0 h).bind fun h1 =>
  some h1
def fX5_useRow (a0 : Option Nat) (a1 : Option Nat) (h : zH) : Option (zH) :=
  (gI 1 0 a1 h).bind fun v1 =>
  if v1 = 31 then ((rc 5 a0 h).bind fun _ =>
    (fX5_takeInt a0 h).bind fun h3 =>
    (gI 1 1 a1 h3).bind fun v4 =>
    (fX8_rowOf v4 h3).bind fun q5 =>
    (rc 5 a0 q5.2).bind fun _ =>
    (fX5_put a0 q5.1 q5.2).bind fun h6 =>
    some h6)
  else if v1 = 32 then ((rc 5 a0 h).bind fun _ =>
    (fX5_takeRow a0 h).bind fun q8 =>
    (rc 5 a0 q8.2).bind fun _ =>
    (fX5_put a0 0 q8.2).bind fun h9 =>
    some h9)
  else if v1 = 33 then ((rc 5 a0 h).bind fun _ =>
    (fX5_takeInt a0 h).bind fun h11 =>
    (rc 5 a0 h11).bind fun _ =>
    (fX5_takeRow a0 h11).bind fun q12 =>
    if q12.1 = 97 then (fX5_useRow_b88 97 a0 q12.2)
    else ((fX8_elementOf q12.1 q12.2).bind fun q14 =>
      fX5_useRow_b88 q14.1 a0 q14.2))
  else ((rc 5 a0 h).bind fun _ =>
  (fX5_take a0 h).bind fun q15 =>
  (rc 5 a0 q15.2).bind fun _ =>
  (fX5_takeInt a0 q15.2).bind fun h16 =>
  (rc 5 a0 h16).bind fun _ =>
  (fX5_takeRow a0 h16).bind fun q17 =>
  if q17.1 = 97 then (fX5_useRow_b133 a0 q17.2)
  else ((gR 5 0 a0 q17.2).bind fun v19 =>
    (fX8_elementOf q17.1 q17.2).bind fun q20 =>
    (rc 6 v19 q20.2).bind fun _ =>
    (fX6_goesInto v19 q15.1 q20.1 q20.2).bind fun q21 =>
    if q21.1 = 0 then (fX5_useRow_b138 0 a0 q21.2)
    else (fX5_useRow_b133 a0 q21.2)))
abbrev rmX6_methodAt : Room := { frames := 0, cells := 0, slots := 0, locals := 0 }
def fX6_methodAt (a0 : Option Nat) (a1 : Int32) (h : zH) : Option (Option Nat × zH) :=
  if a1 < 0 then (some (none, h))
  else ((gI 6 3 a0 h).bind fun v2 =>
    if v2 ≤ a1 then (some (none, h))
    else (if 64 ≤ a1 then (some (none, h))
      else ((gR 6 1 a0 h).bind fun v5 =>
        (aQ 105 v5 a1 h).bind fun v6 =>
        some (v6, h))))
abbrev rmX6_methodInSlot : Room := { frames := 1, cells := 0, slots := 0, locals := 21 }
def fX6_methodInSlot (a0 : Option Nat) (a1 : Int32) (a2 : Int32) (h : zH) : Option (Option Nat × zH) :=
  (rc 6 a0 h).bind fun _ =>
  (fX6_kindAt a0 a1 h).bind fun q1 =>
  if q1.1 = none then (some (none, q1.2))
  else ((rc 2 q1.1 q1.2).bind fun _ =>
    (fX2_inSlot q1.1 a2 q1.2).bind fun q3 =>
    (rc 6 a0 q3.2).bind fun _ =>
    (fX6_methodAt a0 q3.1 q3.2).bind fun q4 =>
    some (q4.1, q4.2))
abbrev rmX5_invoke : Room := { frames := 3, cells := 0, slots := 0, locals := 67 }
def fX5_invoke_b115 (N : Nat) (l0 : Option Nat) (l3 : Option Nat) (h : zH) : Option (zH) :=
  (gI 3 1 l3 h).bind fun v1 =>
  if v1 = (-1) then (some h)
  else ((gI 3 1 l3 h).bind fun v3 =>
    (rc 5 l0 h).bind fun _ =>
    (fX5_put l0 v3 h).bind fun h4 =>
    some h4)
def fX5_invoke_b78 (N : Nat) : Nat → Option Nat → Option Nat → Int32 → Option Nat → Int32 → Int32 → zH → Option (zH)
  | 0, _, _, _, _, _, _, _ => none
  | n + 1, l0, l1, l2, l3, l4, l5, h =>
  if l5 < l4 then (if l2 = 0 then (fX5_invoke_b115 N l0 l3 h)
    else ((gI 1 1 l1 h).bind fun v3 =>
      (rc 5 l0 h).bind fun _ =>
      (fX5_takeInto l0 (1 + v3) h).bind fun h4 =>
      fX5_invoke_b115 N l0 l3 h4))
  else ((rc 3 l3 h).bind fun _ =>
    (fX3_parameterAt l3 l5 h).bind fun q5 =>
    (rc 5 l0 q5.2).bind fun _ =>
    (fX5_takeInto l0 q5.1 q5.2).bind fun h6 =>
    fX5_invoke_b78 N n l0 l1 l2 l3 l4 (l5 + (-1)) h6)
def fX5_invoke_b68 (N : Nat) (l0 : Option Nat) (l1 : Option Nat) (l2 : Int32) (l3 : Option Nat) (s0 : Int32) (h : zH) : Option (zH) :=
  (gI 3 7 l3 h).bind fun v1 =>
  fX5_invoke_b78 N N l0 l1 l2 l3 s0 (v1 - 1) h
def fX5_invoke_b48 (N : Nat) (l0 : Option Nat) (l1 : Option Nat) (l2 : Int32) (s0 : Option Nat) (h : zH) : Option (zH) :=
  if s0 = none then ((pZ 5 2 l0 0 h).bind fun h3 =>
    some h3)
  else (if l2 = 0 then (fX5_invoke_b68 N l0 l1 l2 s0 0 h)
    else (fX5_invoke_b68 N l0 l1 l2 s0 1 h))
def fX5_invoke_b14 (N : Nat) (l0 : Option Nat) (l1 : Option Nat) (s0 : Int32) (h : zH) : Option (zH) :=
  if s0 = 0 then ((gR 5 0 l0 h).bind fun v2 =>
    (gI 1 1 l1 h).bind fun v3 =>
    (rc 6 v2 h).bind fun _ =>
    (fX6_methodAt v2 v3 h).bind fun q4 =>
    fX5_invoke_b48 N l0 l1 s0 q4.1 q4.2)
  else ((gR 5 0 l0 h).bind fun v5 =>
    (gI 1 1 l1 h).bind fun v6 =>
    (gI 1 2 l1 h).bind fun v7 =>
    (rc 6 v5 h).bind fun _ =>
    (fX6_methodInSlot v5 v6 v7 h).bind fun q8 =>
    fX5_invoke_b48 N l0 l1 s0 q8.1 q8.2)
def fX5_invoke (N : Nat) (a0 : Option Nat) (a1 : Option Nat) (h : zH) : Option (zH) :=
  (gI 1 0 a1 h).bind fun v1 =>
  if v1 = 36 then (fX5_invoke_b14 N a0 a1 1 h)
  else (fX5_invoke_b14 N a0 a1 0 h)
abbrev rmX8_isKindType : Room := { frames := 0, cells := 0, slots := 0, locals := 0 }
def fX8_isKindType (a0 : Int32) (h : zH) : Option (Int32 × zH) :=
  if a0 < 1 then (some (0, h))
  else (if 33 ≤ a0 then (some (0, h))
    else (some (1, h)))
abbrev rmX5_leaveOrTalk : Room := { frames := 3, cells := 0, slots := 0, locals := 67 }
def fX5_leaveOrTalk_b104 (s0 : Int32) (s1 : Option Nat) (h : zH) : Option (zH) :=
  (rc 5 s1 h).bind fun _ =>
  (fX5_need s1 s0 h).bind fun h1 =>
  some h1
def fX5_leaveOrTalk_b99 (s0 : Option Nat) (h : zH) : Option (zH) :=
  fX5_leaveOrTalk_b104 1 s0 h
def fX5_leaveOrTalk_b66 (l0 : Option Nat) (l1 : Option Nat) (s0 : Int32) (s1 : Option Nat) (h : zH) : Option (zH) :=
  (rc 5 s1 h).bind fun _ =>
  (fX5_need s1 s0 h).bind fun h1 =>
  (gI 3 1 l1 h1).bind fun v2 =>
  (rc 5 l0 h1).bind fun _ =>
  (fX5_takeInto l0 v2 h1).bind fun h3 =>
  some h3
def fX5_leaveOrTalk_b46 (s0 : Int32) (s1 : Option Nat) (h : zH) : Option (zH) :=
  (rc 5 s1 h).bind fun _ =>
  (fX5_need s1 s0 h).bind fun h1 =>
  some h1
def fX5_leaveOrTalk (a0 : Option Nat) (a1 : Option Nat) (a2 : Int32) (h : zH) : Option (zH) :=
  if a2 = 37 then ((gI 3 1 a1 h).bind fun v2 =>
    if v2 = (-1) then (fX5_leaveOrTalk_b46 1 a0 h)
    else (fX5_leaveOrTalk_b46 0 a0 h))
  else if a2 = 38 then ((gI 3 1 a1 h).bind fun v5 =>
    if v5 = (-1) then (fX5_leaveOrTalk_b66 a0 a1 0 a0 h)
    else (fX5_leaveOrTalk_b66 a0 a1 1 a0 h))
  else if a2 = 39 then ((rc 5 a0 h).bind fun _ =>
    (fX5_take a0 h).bind fun q8 =>
    (fX8_isKindType q8.1 q8.2).bind fun q9 =>
    if q9.1 = 0 then (if q8.1 = 97 then (fX5_leaveOrTalk_b99 a0 q9.2)
      else (fX5_leaveOrTalk_b104 0 a0 q9.2))
    else (fX5_leaveOrTalk_b99 a0 q9.2))
  else if a2 = 40 then ((rc 5 a0 h).bind fun _ =>
    (fX5_put a0 0 h).bind fun h13 =>
    some h13)
  else ((rc 5 a0 h).bind fun _ =>
  (fX5_takeInt a0 h).bind fun h14 =>
  some h14)
abbrev rmX5_perform : Room := { frames := 4, cells := 0, slots := 0, locals := 92 }
def fX5_perform_b122 (N : Nat) (l0 : Option Nat) (h : zH) : Option (Int32 × zH) :=
  (gI 5 2 l0 h).bind fun v1 =>
  rZ v1 h
def fX5_perform (N : Nat) (a0 : Option Nat) (a1 : Option Nat) (a2 : Option Nat) (h : zH) : Option (Int32 × zH) :=
  (pZ 5 2 a0 1 h).bind fun h1 =>
  (gI 1 0 a2 h1).bind fun v2 =>
  if 6 < v2 then ((gI 1 0 a2 h1).bind fun v4 =>
    if 18 < v4 then ((gI 1 0 a2 h1).bind fun v6 =>
      if 25 < v6 then ((gI 1 0 a2 h1).bind fun v8 =>
        if 30 < v8 then ((gI 1 0 a2 h1).bind fun v10 =>
          if 34 < v10 then ((gI 1 0 a2 h1).bind fun v12 =>
            if 36 < v12 then ((gI 1 0 a2 h1).bind fun v14 =>
              (rc 5 a0 h1).bind fun _ =>
              (fX5_leaveOrTalk a0 a1 v14 h1).bind fun h15 =>
              fX5_perform_b122 N a0 h15)
            else ((rc 5 a0 h1).bind fun _ =>
              (fX5_invoke N a0 a2 h1).bind fun h16 =>
              fX5_perform_b122 N a0 h16))
          else ((rc 5 a0 h1).bind fun _ =>
            (fX5_useRow a0 a2 h1).bind fun h17 =>
            fX5_perform_b122 N a0 h17))
        else ((rc 5 a0 h1).bind fun _ =>
          (fX5_useObject a0 a2 h1).bind fun h18 =>
          fX5_perform_b122 N a0 h18))
      else ((gI 1 0 a2 h1).bind fun v19 =>
        (rc 5 a0 h1).bind fun _ =>
        (fX5_branch a0 v19 h1).bind fun h20 =>
        fX5_perform_b122 N a0 h20))
    else ((gI 1 0 a2 h1).bind fun v21 =>
      (rc 5 a0 h1).bind fun _ =>
      (fX5_reckon a0 v21 h1).bind fun h22 =>
      fX5_perform_b122 N a0 h22))
  else ((rc 5 a0 h1).bind fun _ =>
    (fX5_move a0 a2 h1).bind fun h23 =>
    fX5_perform_b122 N a0 h23)
abbrev rmX6_init : Room := { frames := 1, cells := 2, slots := 96, locals := 21 }
def fX6_init (a0 : Option Nat) (h : zH) : Option (zH) :=
  (rc 6 a0 h).bind fun _ =>
  (pR 6 0 a0 (some (zs h)) (nwA 104 32 h)).bind fun h2 =>
  (pR 6 1 a0 (some (zs h2)) (nwA 105 64 h2)).bind fun h3 =>
  some h3
abbrev rmX6_addKind : Room := { frames := 2, cells := 3, slots := 38, locals := 47 }
def fX6_addKind_b52 (N : Nat) (l0 : Option Nat) (h : zH) : Option (Int32 × zH) :=
  (gI 6 2 l0 h).bind fun v1 =>
  some ((v1 - 1), h)
def fX6_addKind (N : Nat) (a0 : Option Nat) (a1 : Option Nat) (h : zH) : Option (Int32 × zH) :=
  (gI 6 2 a0 h).bind fun v1 =>
  if v1 < 32 then ((gR 6 0 a0 h).bind fun v3 =>
    (gI 6 2 a0 h).bind fun v4 =>
    (gI 6 2 a0 (nwO 2 h)).bind fun v5 =>
    (fX2_init N (some (zs h)) v5 a1 (nwO 2 h)).bind fun h6 =>
    (sQ 2 v3 v4 (some (zs h)) h6).bind fun h7 =>
    (gI 6 2 a0 h7).bind fun v8 =>
    (pI 6 2 a0 (v8 + 1) h7).bind fun h9 =>
    if a1 = none then (fX6_addKind_b52 N a0 h9)
    else ((pZ 2 5 a1 1 h9).bind fun h11 =>
      fX6_addKind_b52 N a0 h11))
  else (some ((-2), h))
abbrev rmX6_addMethod : Room := { frames := 2, cells := 4, slots := 228, locals := 45 }
def fX6_addMethod_b52 (l0 : Option Nat) (h : zH) : Option (Int32 × zH) :=
  (gI 6 3 l0 h).bind fun v1 =>
  some ((v1 - 1), h)
def fX6_addMethod (a0 : Option Nat) (a1 : Option Nat) (a2 : Int32) (a3 : Int32) (a4 : Int32) (h : zH) : Option (Int32 × zH) :=
  (gI 6 3 a0 h).bind fun v1 =>
  if v1 < 64 then ((gR 6 1 a0 h).bind fun v3 =>
    (gI 6 3 a0 h).bind fun v4 =>
    (fX3_init (some (zs h)) a1 a2 a3 a4 (nwO 3 h)).bind fun h5 =>
    (sQ 3 v3 v4 (some (zs h)) h5).bind fun h6 =>
    (gI 6 3 a0 h6).bind fun v7 =>
    (pI 6 3 a0 (v7 + 1) h6).bind fun h8 =>
    if a1 = none then (fX6_addMethod_b52 a0 h8)
    else ((pZ 2 6 a1 1 h8).bind fun h10 =>
      fX6_addMethod_b52 a0 h10))
  else (some ((-2), h))
abbrev rmX6_isType : Room := { frames := 1, cells := 0, slots := 0, locals := 22 }
def fX6_isType_b42  (h : zH) : Option (Int32 × zH) :=
  some (1, h)
def fX6_isType_b24  (h : zH) : Option (Int32 × zH) :=
  some (1, h)
def fX6_isType (a0 : Option Nat) (a1 : Int32) (h : zH) : Option (Int32 × zH) :=
  (fX8_isRowType a1 h).bind fun q1 =>
  if q1.1 = 0 then (if a1 = 0 then (fX6_isType_b42 q1.2)
    else ((rc 6 a0 q1.2).bind fun _ =>
      (fX6_kindOf a0 a1 q1.2).bind fun q4 =>
      if q4.1 = none then (some (0, q4.2))
      else (fX6_isType_b42 q4.2)))
  else (if a1 = 64 then (fX6_isType_b24 q1.2)
    else ((fX8_elementOf a1 q1.2).bind fun q7 =>
      (rc 6 a0 q7.2).bind fun _ =>
      (fX6_kindOf a0 q7.1 q7.2).bind fun q8 =>
      if q8.1 = none then (some (0, q8.2))
      else (fX6_isType_b24 q8.2)))
abbrev rmX8_isPlace : Room := { frames := 0, cells := 0, slots := 0, locals := 0 }
def fX8_isPlace (a0 : Int32) (h : zH) : Option (Int32 × zH) :=
  if a0 < 0 then (some (0, h))
  else (if 200 ≤ a0 then (some (0, h))
    else (some (1, h)))
abbrev rmX6_areOperands : Room := { frames := 2, cells := 0, slots := 0, locals := 44 }
def fX6_areOperands_b17 (l0 : Option Nat) (l1 : Option Nat) (l2 : Int32) (l3 : Int32) (l4 : Int32) (h : zH) : Option (Int32 × zH) :=
  if l2 = 2 then (if l3 < 0 then (some (0, h))
    else ((gI 3 2 l1 h).bind fun v3 =>
      if v3 ≤ l3 then (some (0, h))
      else (some (1, h))))
  else if l2 = 3 then (if l3 < 0 then (some (0, h))
    else ((gI 3 2 l1 h).bind fun v7 =>
      if v7 ≤ l3 then (some (0, h))
      else (some (1, h))))
  else if l2 = 26 then ((rc 6 l0 h).bind fun _ =>
    (fX6_kindAt l0 l3 h).bind fun q10 =>
    if q10.1 = none then (some (0, q10.2))
    else (some (1, q10.2)))
  else if l2 = 27 then ((rc 6 l0 h).bind fun _ =>
    (fX6_fieldType l0 l3 l4 h).bind fun q13 =>
    if q13.1 = (-1) then (some (0, q13.2))
    else (some (1, q13.2)))
  else if l2 = 28 then ((rc 6 l0 h).bind fun _ =>
    (fX6_fieldType l0 l3 l4 h).bind fun q16 =>
    if q16.1 = (-1) then (some (0, q16.2))
    else (some (1, q16.2)))
  else if l2 = 29 then ((rc 6 l0 h).bind fun _ =>
    (fX6_kindAt l0 l3 h).bind fun q19 =>
    if q19.1 = none then (some (0, q19.2))
    else (some (1, q19.2)))
  else if l2 = 30 then ((rc 6 l0 h).bind fun _ =>
    (fX6_kindAt l0 l3 h).bind fun q22 =>
    if q22.1 = none then (some (0, q22.2))
    else (some (1, q22.2)))
  else if l2 = 31 then (if l3 < 0 then (some (0, h))
    else ((gI 6 2 l0 h).bind fun v26 =>
      if v26 < l3 then (some (0, h))
      else (some (1, h))))
  else if l2 = 35 then ((rc 6 l0 h).bind fun _ =>
    (fX6_methodAt l0 l3 h).bind fun q29 =>
    if q29.1 = none then (some (0, q29.2))
    else (some (1, q29.2)))
  else if l2 = 36 then ((rc 6 l0 h).bind fun _ =>
    (fX6_methodInSlot l0 l3 l4 h).bind fun q32 =>
    if q32.1 = none then (some (0, q32.2))
    else (some (1, q32.2)))
  else (if l2 < 0 then (some (0, h))
  else (if 41 < l2 then (some (0, h))
    else (some (1, h))))
def fX6_areOperands (a0 : Option Nat) (a1 : Option Nat) (a2 : Int32) (a3 : Int32) (a4 : Int32) (h : zH) : Option (Int32 × zH) :=
  if a2 < 19 then (fX6_areOperands_b17 a0 a1 a2 a3 a4 h)
  else (if 25 < a2 then (fX6_areOperands_b17 a0 a1 a2 a3 a4 h)
    else ((fX8_isPlace a3 h).bind fun q3 =>
      rZ q3.1 q3.2))
abbrev rmX7_init : Room := { frames := 2, cells := 3, slots := 19, locals := 43 }
def fX7_init (a0 : Option Nat) (a1 : Option Nat) (h : zH) : Option (zH) :=
  (rc 7 a0 h).bind fun _ =>
  (pR 7 0 a0 a1 h).bind fun h2 =>
  (fX4_init (some (zs h2)) (nwO 4 h2)).bind fun h3 =>
  (pR 7 1 a0 (some (zs h2)) h3).bind fun h4 =>
  (gR 7 1 a0 (nwO 5 h4)).bind fun v5 =>
  (fX5_init (some (zs h4)) a1 v5 (nwO 5 h4)).bind fun h6 =>
  (pR 7 2 a0 (some (zs h4)) h6).bind fun h7 =>
  some h7
abbrev rmX7_mark : Room := { frames := 1, cells := 0, slots := 0, locals := 21 }
def fX7_mark (a0 : Option Nat) (a1 : Option Nat) (a2 : Int32) (h : zH) : Option (zH) :=
  (pZ 1 5 a1 1 h).bind fun h1 =>
  (gI 7 3 a0 h1).bind fun v2 =>
  (pI 7 3 a0 (if a2 < v2 then a2 else v2) h1).bind fun h3 =>
  some h3
abbrev rmX7_come : Room := { frames := 3, cells := 0, slots := 0, locals := 70 }
def fX7_come (N : Nat) (a0 : Option Nat) (a1 : Option Nat) (a2 : Int32) (a3 : Int32) (h : zH) : Option (zH) :=
  (rc 3 a1 h).bind fun _ =>
  (fX3_instructionAt a1 a3 h).bind fun q1 =>
  if q1.1 = none then ((pI 7 4 a0 a2 q1.2).bind fun h18 =>
    some h18)
  else ((gI 1 4 q1.1 q1.2).bind fun v3 =>
    if v3 = 0 then ((pZ 1 4 q1.1 1 q1.2).bind fun h13 =>
      (gR 1 3 q1.1 h13).bind fun v14 =>
      (gR 7 1 a0 h13).bind fun v15 =>
      (rc 4 v14 h13).bind fun _ =>
      (fX4_copy N v14 v15 h13).bind fun h16 =>
      (rc 7 a0 h16).bind fun _ =>
      (fX7_mark a0 q1.1 a3 h16).bind fun h17 =>
      some h17)
    else ((gR 1 3 q1.1 q1.2).bind fun v5 =>
      (gR 7 1 a0 q1.2).bind fun v6 =>
      (gR 7 0 a0 q1.2).bind fun v7 =>
      (rc 4 v5 q1.2).bind fun _ =>
      (fX4_meet N v5 v6 v7 q1.2).bind fun q8 =>
      if q8.1 = 2 then ((pI 7 4 a0 a3 q8.2).bind fun h12 =>
        some h12)
      else (if q8.1 = 1 then ((rc 7 a0 q8.2).bind fun _ =>
          (fX7_mark a0 q1.1 a3 q8.2).bind fun h11 =>
          some h11)
        else (some q8.2))))
abbrev rmX7_begin : Room := { frames := 4, cells := 0, slots := 0, locals := 95 }
def fX7_begin_b45 (N : Nat) (k17 : Option Nat → Option Nat → Int32 → zH → Option (zH)) (l0 : Option Nat) (l1 : Option Nat) (l2 : Int32) (h : zH) : Option (zH) :=
  k17 l0 l1 (l2 + 1) h
def fX7_begin_b17 (N : Nat) : Nat → Option Nat → Option Nat → Int32 → zH → Option (zH)
  | 0, _, _, _, _ => none
  | n + 1, l0, l1, l2, h =>
  (gI 3 8 l1 h).bind fun v1 =>
  if v1 ≤ l2 then ((pI 7 4 l0 (-1) h).bind fun h3 =>
    (gR 7 1 l0 h3).bind fun v4 =>
    (rc 4 v4 h3).bind fun _ =>
    (fX4_begin N v4 l1 h3).bind fun h5 =>
    (rc 7 l0 h5).bind fun _ =>
    (fX7_come N l0 l1 0 0 h5).bind fun h6 =>
    some h6)
  else ((rc 3 l1 h).bind fun _ =>
    (fX3_instructionAt l1 l2 h).bind fun q7 =>
    if q7.1 = none then (fX7_begin_b45 N (fX7_begin_b17 N n) l0 l1 l2 q7.2)
    else ((pZ 1 4 q7.1 0 q7.2).bind fun h9 =>
      (pZ 1 5 q7.1 0 h9).bind fun h10 =>
      fX7_begin_b45 N (fX7_begin_b17 N n) l0 l1 l2 h10))
def fX7_begin (N : Nat) (a0 : Option Nat) (a1 : Option Nat) (h : zH) : Option (zH) :=
  (pI 7 5 a0 0 h).bind fun h1 =>
  (pI 7 3 a0 0 h1).bind fun h2 =>
  (pZ 3 11 a1 1 h2).bind fun h3 =>
  fX7_begin_b17 N N a0 a1 0 h3
abbrev rmX7_leastMarked : Room := { frames := 1, cells := 0, slots := 0, locals := 21 }
def fX7_leastMarked_b37 (N : Nat) (k5 : Option Nat → Option Nat → Int32 → zH → Option (Int32 × zH)) (l0 : Option Nat) (l1 : Option Nat) (l2 : Int32) (h : zH) : Option (Int32 × zH) :=
  k5 l0 l1 (l2 + 1) h
def fX7_leastMarked_b5 (N : Nat) : Nat → Option Nat → Option Nat → Int32 → zH → Option (Int32 × zH)
  | 0, _, _, _, _ => none
  | n + 1, l0, l1, l2, h =>
  (gI 3 8 l1 h).bind fun v1 =>
  if v1 ≤ l2 then (some ((-1), h))
  else ((rc 3 l1 h).bind fun _ =>
    (fX3_instructionAt l1 l2 h).bind fun q3 =>
    if q3.1 = none then (fX7_leastMarked_b37 N (fX7_leastMarked_b5 N n) l0 l1 l2 q3.2)
    else ((gI 1 5 q3.1 q3.2).bind fun v5 =>
      if v5 = 0 then (fX7_leastMarked_b37 N (fX7_leastMarked_b5 N n) l0 l1 l2 q3.2)
      else ((pI 7 3 l0 l2 q3.2).bind fun h7 =>
        some (l2, h7))))
def fX7_leastMarked (N : Nat) (a0 : Option Nat) (a1 : Option Nat) (h : zH) : Option (Int32 × zH) :=
  (gI 7 3 a0 h).bind fun v1 =>
  fX7_leastMarked_b5 N N a0 a1 v1 h
abbrev rmX7_comeToHandlers : Room := { frames := 4, cells := 0, slots := 0, locals := 95 }
def fX7_comeToHandlers_b100 (N : Nat) (k3 : Option Nat → Option Nat → Int32 → Option Nat → Int32 → zH → Option (zH)) (l0 : Option Nat) (l1 : Option Nat) (l2 : Int32) (l3 : Option Nat) (l4 : Int32) (h : zH) : Option (zH) :=
  k3 l0 l1 l2 l3 (l4 + 1) h
def fX7_comeToHandlers_b3 (N : Nat) : Nat → Option Nat → Option Nat → Int32 → Option Nat → Int32 → zH → Option (zH)
  | 0, _, _, _, _, _, _ => none
  | n + 1, l0, l1, l2, l3, l4, h =>
  (gI 3 9 l1 h).bind fun v1 =>
  if v1 ≤ l4 then (some h)
  else ((gI 7 4 l0 h).bind fun v3 =>
    if v3 = (-1) then ((rc 3 l1 h).bind fun _ =>
      (fX3_handlerAt l1 l4 h).bind fun q5 =>
      if q5.1 = none then (fX7_comeToHandlers_b100 N (fX7_comeToHandlers_b3 N n) l0 l1 l2 l3 l4 q5.2)
      else ((rc 0 q5.1 q5.2).bind fun _ =>
        (fX0_covers q5.1 l2 q5.2).bind fun q7 =>
        if q7.1 = 0 then (fX7_comeToHandlers_b100 N (fX7_comeToHandlers_b3 N n) l0 l1 l2 l3 l4 q7.2)
        else ((gR 7 1 l0 q7.2).bind fun v9 =>
          (gR 1 3 l3 q7.2).bind fun v10 =>
          (rc 4 v9 q7.2).bind fun _ =>
          (fX4_copy N v9 v10 q7.2).bind fun h11 =>
          (gR 7 1 l0 h11).bind fun v12 =>
          (pI 4 3 v12 0 h11).bind fun h13 =>
          (gR 7 1 l0 h13).bind fun v14 =>
          (gI 0 2 q5.1 h13).bind fun v15 =>
          (rc 4 v14 h13).bind fun _ =>
          (fX4_put v14 (1 + v15) h13).bind fun q16 =>
          if q16.1 = 0 then ((pI 7 4 l0 l2 q16.2).bind fun h18 =>
            fX7_comeToHandlers_b100 N (fX7_comeToHandlers_b3 N n) l0 l1 l2 l3 l4 h18)
          else ((gI 0 3 q5.1 q16.2).bind fun v19 =>
            (rc 7 l0 q16.2).bind fun _ =>
            (fX7_come N l0 l1 l2 v19 q16.2).bind fun h20 =>
            fX7_comeToHandlers_b100 N (fX7_comeToHandlers_b3 N n) l0 l1 l2 l3 l4 h20))))
    else (some h))
def fX7_comeToHandlers (N : Nat) (a0 : Option Nat) (a1 : Option Nat) (a2 : Int32) (a3 : Option Nat) (h : zH) : Option (zH) :=
  fX7_comeToHandlers_b3 N N a0 a1 a2 a3 0 h
abbrev rmX7_lookAt : Room := { frames := 5, cells := 0, slots := 0, locals := 120 }
def fX7_lookAt_b87 (N : Nat) (l0 : Option Nat) (l1 : Option Nat) (l2 : Int32) (l3 : Option Nat) (h : zH) : Option (zH) :=
  (rc 1 l3 h).bind fun _ =>
  (fX1_isJump l3 h).bind fun q1 =>
  if q1.1 = 0 then (some q1.2)
  else ((gI 7 4 l0 q1.2).bind fun v3 =>
    if v3 = (-1) then ((gI 1 1 l3 q1.2).bind fun v5 =>
      (rc 7 l0 q1.2).bind fun _ =>
      (fX7_come N l0 l1 l2 v5 q1.2).bind fun h6 =>
      some h6)
    else (some q1.2))
def fX7_lookAt (N : Nat) (a0 : Option Nat) (a1 : Option Nat) (a2 : Int32) (h : zH) : Option (zH) :=
  (rc 3 a1 h).bind fun _ =>
  (fX3_instructionAt a1 a2 h).bind fun q1 =>
  if q1.1 = none then (some q1.2)
  else ((pZ 1 5 q1.1 0 q1.2).bind fun h3 =>
    (gI 7 5 a0 h3).bind fun v4 =>
    (pI 7 5 a0 (v4 + 1) h3).bind fun h5 =>
    (rc 7 a0 h5).bind fun _ =>
    (fX7_comeToHandlers N a0 a1 a2 q1.1 h5).bind fun h6 =>
    (gI 7 4 a0 h6).bind fun v7 =>
    if v7 = (-1) then ((gR 7 1 a0 h6).bind fun v9 =>
      (gR 1 3 q1.1 h6).bind fun v10 =>
      (rc 4 v9 h6).bind fun _ =>
      (fX4_copy N v9 v10 h6).bind fun h11 =>
      (gR 7 2 a0 h11).bind fun v12 =>
      (rc 5 v12 h11).bind fun _ =>
      (fX5_perform N v12 a1 q1.1 h11).bind fun q13 =>
      if q13.1 = 0 then ((pI 7 4 a0 a2 q13.2).bind fun h18 =>
        some h18)
      else ((rc 1 q1.1 q13.2).bind fun _ =>
        (fX1_goesOnBehind q1.1 q13.2).bind fun q15 =>
        if q15.1 = 0 then (fX7_lookAt_b87 N a0 a1 a2 q1.1 q15.2)
        else ((rc 7 a0 q15.2).bind fun _ =>
          (fX7_come N a0 a1 a2 (a2 + 1) q15.2).bind fun h17 =>
          fX7_lookAt_b87 N a0 a1 a2 q1.1 h17)))
    else (some h6))
abbrev rmX7_goOver : Room := { frames := 6, cells := 0, slots := 0, locals := 143 }
def fX7_goOver_b47 (N : Nat) (l0 : Option Nat) (h : zH) : Option (Int32 × zH) :=
  (gI 7 4 l0 h).bind fun v1 =>
  some (v1, h)
def fX7_goOver_b7 (N : Nat) : Nat → Option Nat → Option Nat → Int32 → zH → Option (Int32 × zH)
  | 0, _, _, _, _ => none
  | n + 1, l0, l1, l2, h =>
  if 1000000 ≤ l2 then (fX7_goOver_b47 N l0 h)
  else ((gI 7 4 l0 h).bind fun v2 =>
    if v2 = (-1) then ((rc 7 l0 h).bind fun _ =>
      (fX7_leastMarked N l0 l1 h).bind fun q4 =>
      if q4.1 = (-1) then (fX7_goOver_b47 N l0 q4.2)
      else ((rc 7 l0 q4.2).bind fun _ =>
        (fX7_lookAt N l0 l1 q4.1 q4.2).bind fun h6 =>
        fX7_goOver_b7 N n l0 l1 (l2 + 1) h6))
    else (fX7_goOver_b47 N l0 h))
def fX7_goOver (N : Nat) (a0 : Option Nat) (a1 : Option Nat) (h : zH) : Option (Int32 × zH) :=
  (rc 7 a0 h).bind fun _ =>
  (fX7_begin N a0 a1 h).bind fun h1 =>
  fX7_goOver_b7 N N a0 a1 0 h1
abbrev rmX8_init : Room := { frames := 3, cells := 7, slots := 125, locals := 64 }
def fX8_init (a0 : Option Nat) (h : zH) : Option (zH) :=
  (rc 8 a0 h).bind fun _ =>
  (fX6_init (some (zs h)) (nwO 6 h)).bind fun h2 =>
  (pR 8 0 a0 (some (zs h)) h2).bind fun h3 =>
  (gR 8 0 a0 (nwO 7 h3)).bind fun v4 =>
  (fX7_init (some (zs h3)) v4 (nwO 7 h3)).bind fun h5 =>
  (pR 8 1 a0 (some (zs h3)) h5).bind fun h6 =>
  some h6
abbrev rmX8_kind : Room := { frames := 3, cells := 3, slots := 38, locals := 68 }
def fX8_kind_b20 (N : Nat) (l0 : Option Nat) (l2 : Option Nat) (h : zH) : Option (Int32 × zH) :=
  (gR 8 0 l0 h).bind fun v1 =>
  (rc 6 v1 h).bind fun _ =>
  (fX6_addKind N v1 l2 h).bind fun q2 =>
  some (q2.1, q2.2)
def fX8_kind (N : Nat) (a0 : Option Nat) (a1 : Int32) (h : zH) : Option (Int32 × zH) :=
  (gR 8 0 a0 h).bind fun v1 =>
  (rc 6 v1 h).bind fun _ =>
  (fX6_kindAt v1 a1 h).bind fun q2 =>
  if a1 = (-1) then (fX8_kind_b20 N a0 q2.1 q2.2)
  else (if q2.1 = none then (some ((-1), q2.2))
    else (fX8_kind_b20 N a0 q2.1 q2.2))
abbrev rmX8_field : Room := { frames := 2, cells := 0, slots := 0, locals := 43 }
def fX8_field (a0 : Option Nat) (a1 : Int32) (a2 : Int32) (h : zH) : Option (Int32 × zH) :=
  (gR 8 0 a0 h).bind fun v1 =>
  (rc 6 v1 h).bind fun _ =>
  (fX6_kindAt v1 a1 h).bind fun q2 =>
  if q2.1 = none then (some ((-1), q2.2))
  else ((gR 8 0 a0 q2.2).bind fun v4 =>
    (rc 6 v4 q2.2).bind fun _ =>
    (fX6_isType v4 a2 q2.2).bind fun q5 =>
    if q5.1 = 0 then (some ((-1), q5.2))
    else ((gI 2 5 q2.1 q5.2).bind fun v7 =>
      if v7 = 0 then ((gI 2 6 q2.1 q5.2).bind fun v9 =>
        if v9 = 0 then ((rc 2 q2.1 q5.2).bind fun _ =>
          (fX2_addField q2.1 a2 q5.2).bind fun q11 =>
          some (q11.1, q11.2))
        else (some ((-1), q5.2)))
      else (some ((-1), q5.2))))
abbrev rmX8_isRoom : Room := { frames := 0, cells := 0, slots := 0, locals := 0 }
def fX8_isRoom (a0 : Int32) (a1 : Int32) (h : zH) : Option (Int32 × zH) :=
  if a0 < 0 then (some (0, h))
  else (if 12 < a0 then (some (0, h))
    else (if a1 < 0 then (some (0, h))
      else (if 12 < a1 then (some (0, h))
        else (if 12 < (a0 + a1) then (some (0, h))
          else (some (1, h))))))
abbrev rmX8_method : Room := { frames := 3, cells := 4, slots := 228, locals := 69 }
def fX8_method_b60 (l0 : Option Nat) (l2 : Int32) (l3 : Int32) (l4 : Int32) (l5 : Option Nat) (h : zH) : Option (Int32 × zH) :=
  (gR 8 0 l0 h).bind fun v1 =>
  (rc 6 v1 h).bind fun _ =>
  (fX6_addMethod v1 l5 l2 l3 l4 h).bind fun q2 =>
  some (q2.1, q2.2)
def fX8_method_b40 (l0 : Option Nat) (l2 : Int32) (l3 : Int32) (l4 : Int32) (l5 : Option Nat) (h : zH) : Option (Int32 × zH) :=
  (fX8_isRoom l3 l4 h).bind fun q1 =>
  if q1.1 = 0 then (some ((-1), q1.2))
  else (if l5 = none then (fX8_method_b60 l0 l2 l3 l4 l5 q1.2)
    else (if l3 = 0 then (some ((-1), q1.2))
      else (fX8_method_b60 l0 l2 l3 l4 l5 q1.2)))
def fX8_method_b22 (l0 : Option Nat) (l2 : Int32) (l3 : Int32) (l4 : Int32) (l5 : Option Nat) (h : zH) : Option (Int32 × zH) :=
  if l2 = (-1) then (fX8_method_b40 l0 l2 l3 l4 l5 h)
  else ((gR 8 0 l0 h).bind fun v2 =>
    (rc 6 v2 h).bind fun _ =>
    (fX6_isType v2 l2 h).bind fun q3 =>
    if q3.1 = 0 then (some ((-1), q3.2))
    else (fX8_method_b40 l0 l2 l3 l4 l5 q3.2))
def fX8_method (a0 : Option Nat) (a1 : Int32) (a2 : Int32) (a3 : Int32) (a4 : Int32) (h : zH) : Option (Int32 × zH) :=
  (gR 8 0 a0 h).bind fun v1 =>
  (rc 6 v1 h).bind fun _ =>
  (fX6_kindAt v1 a1 h).bind fun q2 =>
  if a1 = (-1) then (fX8_method_b22 a0 a2 a3 a4 q2.1 q2.2)
  else (if q2.1 = none then (some ((-1), q2.2))
    else (fX8_method_b22 a0 a2 a3 a4 q2.1 q2.2))
abbrev rmX8_parameter : Room := { frames := 2, cells := 0, slots := 0, locals := 43 }
def fX8_parameter (a0 : Option Nat) (a1 : Int32) (a2 : Int32) (h : zH) : Option (Int32 × zH) :=
  (gR 8 0 a0 h).bind fun v1 =>
  (rc 6 v1 h).bind fun _ =>
  (fX6_methodAt v1 a1 h).bind fun q2 =>
  if q2.1 = none then (some ((-1), q2.2))
  else ((gR 8 0 a0 q2.2).bind fun v4 =>
    (rc 6 v4 q2.2).bind fun _ =>
    (fX6_isType v4 a2 q2.2).bind fun q5 =>
    if q5.1 = 0 then (some ((-1), q5.2))
    else ((rc 3 q2.1 q5.2).bind fun _ =>
      (fX3_isOpenForParameters q2.1 q5.2).bind fun q7 =>
      if q7.1 = 0 then (some ((-1), q7.2))
      else ((rc 3 q2.1 q7.2).bind fun _ =>
        (fX3_addParameter q2.1 a2 q7.2).bind fun q9 =>
        some (q9.1, q9.2))))
abbrev rmX8_slot : Room := { frames := 2, cells := 0, slots := 0, locals := 43 }
def fX8_slot_b77 (N : Nat) (l1 : Int32) (l2 : Int32) (l3 : Option Nat) (l4 : Option Nat) (h : zH) : Option (Int32 × zH) :=
  (gR 2 3 l4 h).bind fun v1 =>
  (sI v1 l2 l1 h).bind fun h2 =>
  (pZ 3 10 l3 1 h2).bind fun h3 =>
  some (1, h3)
def fX8_slot (N : Nat) (a0 : Option Nat) (a1 : Int32) (a2 : Int32) (h : zH) : Option (Int32 × zH) :=
  (gR 8 0 a0 h).bind fun v1 =>
  (rc 6 v1 h).bind fun _ =>
  (fX6_methodAt v1 a1 h).bind fun q2 =>
  if q2.1 = none then (some (0, q2.2))
  else (if a2 < 0 then (some (0, q2.2))
    else (if a2 < 16 then ((gR 3 0 q2.1 q2.2).bind fun v6 =>
        if v6 = none then (some (0, q2.2))
        else ((gI 2 5 v6 q2.2).bind fun v8 =>
          if v8 = 0 then ((gR 8 0 a0 q2.2).bind fun v10 =>
            (rc 2 v6 q2.2).bind fun _ =>
            (fX2_inSlot v6 a2 q2.2).bind fun q11 =>
            (rc 6 v10 q11.2).bind fun _ =>
            (fX6_methodAt v10 q11.1 q11.2).bind fun q12 =>
            if q12.1 = none then (fX8_slot_b77 N a1 a2 q2.1 v6 q12.2)
            else ((rc 3 q12.1 q12.2).bind fun _ =>
              (fX3_isCalledLike N q12.1 q2.1 q12.2).bind fun q14 =>
              if q14.1 = 0 then (some (0, q14.2))
              else (fX8_slot_b77 N a1 a2 q2.1 v6 q14.2)))
          else (some (0, q2.2))))
      else (some (0, q2.2))))
abbrev rmX8_op : Room := { frames := 4, cells := 3, slots := 22, locals := 87 }
def fX8_op (a0 : Option Nat) (a1 : Int32) (a2 : Int32) (a3 : Int32) (a4 : Int32) (h : zH) : Option (Int32 × zH) :=
  (gR 8 0 a0 h).bind fun v1 =>
  (rc 6 v1 h).bind fun _ =>
  (fX6_methodAt v1 a1 h).bind fun q2 =>
  if q2.1 = none then (some ((-1), q2.2))
  else ((gR 8 0 a0 q2.2).bind fun v4 =>
    (rc 6 v4 q2.2).bind fun _ =>
    (fX6_areOperands v4 q2.1 a2 a3 a4 q2.2).bind fun q5 =>
    if q5.1 = 0 then (some ((-1), q5.2))
    else ((rc 3 q2.1 q5.2).bind fun _ =>
      (fX3_addInstruction q2.1 a2 a3 a4 q5.2).bind fun q7 =>
      some (q7.1, q7.2)))
abbrev rmX8_handler : Room := { frames := 3, cells := 1, slots := 4, locals := 69 }
def fX8_handler (a0 : Option Nat) (a1 : Int32) (a2 : Int32) (a3 : Int32) (a4 : Int32) (a5 : Int32) (h : zH) : Option (Int32 × zH) :=
  (gR 8 0 a0 h).bind fun v1 =>
  (rc 6 v1 h).bind fun _ =>
  (fX6_methodAt v1 a1 h).bind fun q2 =>
  if q2.1 = none then (some ((-1), q2.2))
  else ((gR 8 0 a0 q2.2).bind fun v4 =>
    (rc 6 v4 q2.2).bind fun _ =>
    (fX6_kindAt v4 a4 q2.2).bind fun q5 =>
    if q5.1 = none then (some ((-1), q5.2))
    else ((fX8_isPlace a5 q5.2).bind fun q7 =>
      if q7.1 = 0 then (some ((-1), q7.2))
      else (if a2 < 0 then (some ((-1), q7.2))
        else (if a3 ≤ a2 then (some ((-1), q7.2))
          else (if a3 ≤ 200 then ((rc 3 q2.1 q7.2).bind fun _ =>
              (fX3_addHandler q2.1 a2 a3 a4 a5 q7.2).bind fun q12 =>
              some (q12.1, q12.2))
            else (some ((-1), q7.2)))))))
abbrev rmX8_verify : Room := { frames := 7, cells := 0, slots := 0, locals := 166 }
def fX8_verify (N : Nat) (a0 : Option Nat) (a1 : Int32) (h : zH) : Option (Int32 × zH) :=
  (gR 8 0 a0 h).bind fun v1 =>
  (rc 6 v1 h).bind fun _ =>
  (fX6_methodAt v1 a1 h).bind fun q2 =>
  if q2.1 = none then (some ((-1), q2.2))
  else ((gR 8 1 a0 q2.2).bind fun v4 =>
    (rc 7 v4 q2.2).bind fun _ =>
    (fX7_goOver N v4 q2.1 q2.2).bind fun q5 =>
    if q5.1 = (-1) then (some (0, q5.2))
    else (some ((q5.1 + 1), q5.2)))
abbrev rmX8_stands : Room := { frames := 1, cells := 0, slots := 0, locals := 22 }
def fX8_stands (a0 : Option Nat) (a1 : Int32) (a2 : Int32) (a3 : Int32) (a4 : Int32) (h : zH) : Option (Int32 × zH) :=
  (gR 8 0 a0 h).bind fun v1 =>
  (rc 6 v1 h).bind fun _ =>
  (fX6_methodAt v1 a1 h).bind fun q2 =>
  if q2.1 = none then (some ((-1), q2.2))
  else ((gI 3 11 q2.1 q2.2).bind fun v4 =>
    if v4 = 0 then (some ((-1), q2.2))
    else ((rc 3 q2.1 q2.2).bind fun _ =>
      (fX3_instructionAt q2.1 a2 q2.2).bind fun q6 =>
      if q6.1 = none then (some ((-1), q6.2))
      else ((gI 1 4 q6.1 q6.2).bind fun v8 =>
        if v8 = 0 then (some ((-1), q6.2))
        else (if a3 = 0 then ((gR 1 3 q6.1 q6.2).bind fun v11 =>
            (gI 4 3 v11 q6.2).bind fun v12 =>
            some (v12, q6.2))
          else if a3 = 1 then ((gR 1 3 q6.1 q6.2).bind fun v14 =>
            (rc 4 v14 q6.2).bind fun _ =>
            (fX4_localAt v14 a4 q6.2).bind fun q15 =>
            some (q15.1, q15.2))
          else if a3 = 2 then ((gR 1 3 q6.1 q6.2).bind fun v17 =>
            (rc 4 v17 q6.2).bind fun _ =>
            (fX4_placeAt v17 a4 q6.2).bind fun q18 =>
            some (q18.1, q18.2))
          else (some ((-1), q6.2))))))
abbrev rmX8_looked : Room := { frames := 0, cells := 0, slots := 0, locals := 0 }
def fX8_looked (a0 : Option Nat) (h : zH) : Option (Int32 × zH) :=
  (gR 8 1 a0 h).bind fun v1 =>
  (gI 7 5 v1 h).bind fun v2 =>
  some (v2, h)
abbrev rmX9_init : Room := { frames := 1, cells := 26, slots := 209236, locals := 21 }
def fX9_init (a0 : Option Nat) (h : zH) : Option (zH) :=
  (rc 9 a0 h).bind fun _ =>
  (pR 9 1 a0 (some (zs h)) (nwA 100 32 h)).bind fun h2 =>
  (pR 9 2 a0 (some (zs h2)) (nwA 101 32 h2)).bind fun h3 =>
  (pR 9 3 a0 (some (zs h3)) (nwA 100 32 h3)).bind fun h4 =>
  (pR 9 4 a0 (some (zs h4)) (nwA 100 480 h4)).bind fun h5 =>
  (pR 9 5 a0 (some (zs h5)) (nwA 100 512 h5)).bind fun h6 =>
  (pR 9 7 a0 (some (zs h6)) (nwA 100 64 h6)).bind fun h7 =>
  (pR 9 8 a0 (some (zs h7)) (nwA 100 64 h7)).bind fun h8 =>
  (pR 9 9 a0 (some (zs h8)) (nwA 100 64 h8)).bind fun h9 =>
  (pR 9 10 a0 (some (zs h9)) (nwA 100 64 h9)).bind fun h10 =>
  (pR 9 11 a0 (some (zs h10)) (nwA 100 64 h10)).bind fun h11 =>
  (pR 9 12 a0 (some (zs h11)) (nwA 100 512 h11)).bind fun h12 =>
  (pR 9 13 a0 (some (zs h12)) (nwA 101 64 h12)).bind fun h13 =>
  (pR 9 14 a0 (some (zs h13)) (nwA 100 64 h13)).bind fun h14 =>
  (pR 9 15 a0 (some (zs h14)) (nwA 100 12800 h14)).bind fun h15 =>
  (pR 9 16 a0 (some (zs h15)) (nwA 100 12800 h15)).bind fun h16 =>
  (pR 9 17 a0 (some (zs h16)) (nwA 100 12800 h16)).bind fun h17 =>
  (pR 9 18 a0 (some (zs h17)) (nwA 100 64 h17)).bind fun h18 =>
  (pR 9 19 a0 (some (zs h18)) (nwA 100 512 h18)).bind fun h19 =>
  (pR 9 20 a0 (some (zs h19)) (nwA 100 512 h19)).bind fun h20 =>
  (pR 9 21 a0 (some (zs h20)) (nwA 100 512 h20)).bind fun h21 =>
  (pR 9 22 a0 (some (zs h21)) (nwA 100 512 h21)).bind fun h22 =>
  (pR 9 23 a0 (some (zs h22)) (nwA 101 64 h22)).bind fun h23 =>
  (pR 9 24 a0 (some (zs h23)) (nwA 100 12800 h23)).bind fun h24 =>
  (pR 9 25 a0 (some (zs h24)) (nwA 100 153600 h24)).bind fun h25 =>
  (pR 9 26 a0 (some (zs h25)) (nwA 101 200 h25)).bind fun h26 =>
  (pR 9 28 a0 (some (zs h26)) (nwA 100 12 h26)).bind fun h27 =>
  some h27
abbrev rmX9_isClass : Room := { frames := 0, cells := 0, slots := 0, locals := 0 }
def fX9_isClass (a0 : Option Nat) (a1 : Int32) (h : zH) : Option (Int32 × zH) :=
  if a1 < 0 then (some (0, h))
  else ((gI 9 0 a0 h).bind fun v2 =>
    if v2 ≤ a1 then (some (0, h))
    else (some (1, h)))
abbrev rmX9_isMethod : Room := { frames := 0, cells := 0, slots := 0, locals := 0 }
def fX9_isMethod (a0 : Option Nat) (a1 : Int32) (h : zH) : Option (Int32 × zH) :=
  if a1 < 0 then (some (0, h))
  else ((gI 9 6 a0 h).bind fun v2 =>
    if v2 ≤ a1 then (some (0, h))
    else (some (1, h)))
abbrev rmX9_isType : Room := { frames := 0, cells := 0, slots := 0, locals := 0 }
def fX9_isType_b29  (h : zH) : Option (Int32 × zH) :=
  some (1, h)
def fX9_isType_b12 (l0 : Option Nat) (l1 : Int32) (h : zH) : Option (Int32 × zH) :=
  if l1 < 64 then (some (0, h))
  else ((gI 9 0 l0 h).bind fun v2 =>
    if (64 + v2) < l1 then (some (0, h))
    else (fX9_isType_b29 h))
def fX9_isType (a0 : Option Nat) (a1 : Int32) (h : zH) : Option (Int32 × zH) :=
  if a1 < 0 then (fX9_isType_b12 a0 a1 h)
  else ((gI 9 0 a0 h).bind fun v2 =>
    if a1 ≤ v2 then (fX9_isType_b29 h)
    else (fX9_isType_b12 a0 a1 h))
abbrev rmX9_isRow : Room := { frames := 0, cells := 0, slots := 0, locals := 0 }
def fX9_isRow (a0 : Int32) (h : zH) : Option (Int32 × zH) :=
  if a0 < 64 then (some (0, h))
  else (if 96 < a0 then (some (0, h))
    else (some (1, h)))
abbrev rmX9_isSome : Room := { frames := 0, cells := 0, slots := 0, locals := 0 }
def fX9_isSome (a0 : Int32) (h : zH) : Option (Int32 × zH) :=
  if a0 ≤ 0 then (some (0, h))
  else (if 32 < a0 then (some (0, h))
    else (some (1, h)))
abbrev rmX9_isReference : Room := { frames := 0, cells := 0, slots := 0, locals := 0 }
def fX9_isReference (a0 : Int32) (h : zH) : Option (Int32 × zH) :=
  if a0 = 0 then (some (0, h))
  else (if a0 = 99 then (some (0, h))
    else (some (1, h)))
abbrev rmX9_isUnder : Room := { frames := 0, cells := 0, slots := 0, locals := 0 }
def fX9_isUnder_b21 (N : Nat) (l2 : Int32) (l3 : Int32) (h : zH) : Option (Int32 × zH) :=
  if l3 = l2 then (some (1, h))
  else (some (0, h))
def fX9_isUnder_b2 (N : Nat) : Nat → Option Nat → Int32 → Int32 → zH → Option (Int32 × zH)
  | 0, _, _, _, _ => none
  | n + 1, l0, l2, l3, h =>
  if l3 < 0 then (fX9_isUnder_b21 N l2 l3 h)
  else (if l3 = l2 then (fX9_isUnder_b21 N l2 l3 h)
    else ((gR 9 1 l0 h).bind fun v3 =>
      (aI 100 v3 l3 h).bind fun v4 =>
      fX9_isUnder_b2 N n l0 l2 v4 h))
def fX9_isUnder (N : Nat) (a0 : Option Nat) (a1 : Int32) (a2 : Int32) (h : zH) : Option (Int32 × zH) :=
  fX9_isUnder_b2 N N a0 a2 a1 h
abbrev rmX9_kind : Room := { frames := 1, cells := 0, slots := 0, locals := 21 }
def fX9_kind_b161 (N : Nat) (l0 : Option Nat) (l2 : Int32) (h : zH) : Option (Int32 × zH) :=
  (gI 9 0 l0 h).bind fun v1 =>
  (pI 9 0 l0 (v1 + 1) h).bind fun h2 =>
  some (l2, h2)
def fX9_kind_b136 (N : Nat) (k101 : Option Nat → Int32 → Int32 → Int32 → zH → Option (Int32 × zH)) (l0 : Option Nat) (l1 : Int32) (l2 : Int32) (l3 : Int32) (s0 : Int32) (s1 : Int32) (s2 : Option Nat) (h : zH) : Option (Int32 × zH) :=
  (sI s2 s1 s0 h).bind fun h1 =>
  k101 l0 l1 l2 (l3 + 1) h1
def fX9_kind_b101 (N : Nat) : Nat → Option Nat → Int32 → Int32 → Int32 → zH → Option (Int32 × zH)
  | 0, _, _, _, _, _ => none
  | n + 1, l0, l1, l2, l3, h =>
  if 16 ≤ l3 then ((gR 9 2 l0 h).bind fun v2 =>
    (sZ v2 l2 0 h).bind fun h3 =>
    if l1 < 0 then (fX9_kind_b161 N l0 l2 h3)
    else ((gR 9 2 l0 h3).bind fun v5 =>
      (sZ v5 l1 1 h3).bind fun h6 =>
      fX9_kind_b161 N l0 l2 h6))
  else ((gR 9 5 l0 h).bind fun v7 =>
    if 0 ≤ l1 then ((gR 9 5 l0 h).bind fun v9 =>
      (aI 100 v9 ((16 * l1) + l3) h).bind fun v10 =>
      fX9_kind_b136 N (fX9_kind_b101 N n) l0 l1 l2 l3 v10 ((16 * l2) + l3) v7 h)
    else (fX9_kind_b136 N (fX9_kind_b101 N n) l0 l1 l2 l3 (-1) ((16 * l2) + l3) v7 h))
def fX9_kind_b61 (N : Nat) : Nat → Option Nat → Int32 → Int32 → Int32 → zH → Option (Int32 × zH)
  | 0, _, _, _, _, _ => none
  | n + 1, l0, l1, l2, l3, h =>
  (gR 9 3 l0 h).bind fun v1 =>
  (aI 100 v1 l2 h).bind fun v2 =>
  if v2 ≤ l3 then (fX9_kind_b101 N N l0 l1 l2 0 h)
  else ((gR 9 4 l0 h).bind fun v4 =>
    (gR 9 4 l0 h).bind fun v5 =>
    (aI 100 v5 ((15 * l1) + l3) h).bind fun v6 =>
    (sI v4 ((15 * l2) + l3) v6 h).bind fun h7 =>
    fX9_kind_b61 N n l0 l1 l2 (l3 + 1) h7)
def fX9_kind_b58 (N : Nat) (l0 : Option Nat) (l1 : Int32) (l2 : Int32) (s0 : Int32) (s1 : Int32) (s2 : Option Nat) (h : zH) : Option (Int32 × zH) :=
  (sI s2 s1 s0 h).bind fun h1 =>
  fX9_kind_b61 N N l0 l1 l2 0 h1
def fX9_kind_b15 (N : Nat) (l0 : Option Nat) (l1 : Int32) (h : zH) : Option (Int32 × zH) :=
  (gI 9 0 l0 h).bind fun v1 =>
  if v1 = 32 then (some ((-2), h))
  else ((gI 9 0 l0 h).bind fun v3 =>
    (gR 9 1 l0 h).bind fun v4 =>
    (sI v4 v3 l1 h).bind fun h5 =>
    (gR 9 3 l0 h5).bind fun v6 =>
    if 0 ≤ l1 then ((gR 9 3 l0 h5).bind fun v8 =>
      (aI 100 v8 l1 h5).bind fun v9 =>
      fX9_kind_b58 N l0 l1 v3 v9 v3 v6 h5)
    else (fX9_kind_b58 N l0 l1 v3 0 v3 v6 h5))
def fX9_kind (N : Nat) (a0 : Option Nat) (a1 : Int32) (h : zH) : Option (Int32 × zH) :=
  if a1 = (-1) then (fX9_kind_b15 N a0 a1 h)
  else ((rc 9 a0 h).bind fun _ =>
    (fX9_isClass a0 a1 h).bind fun q2 =>
    if q2.1 = 0 then (some ((-1), q2.2))
    else (fX9_kind_b15 N a0 a1 q2.2))
abbrev rmX9_field : Room := { frames := 1, cells := 0, slots := 0, locals := 21 }
def fX9_field (a0 : Option Nat) (a1 : Int32) (a2 : Int32) (h : zH) : Option (Int32 × zH) :=
  (rc 9 a0 h).bind fun _ =>
  (fX9_isClass a0 a1 h).bind fun q1 =>
  if q1.1 = 0 then (some ((-1), q1.2))
  else ((rc 9 a0 q1.2).bind fun _ =>
    (fX9_isType a0 a2 q1.2).bind fun q3 =>
    if q3.1 = 0 then (some ((-1), q3.2))
    else ((gR 9 2 a0 q3.2).bind fun v5 =>
      (aI 101 v5 a1 q3.2).bind fun v6 =>
      if v6 = 0 then ((gR 9 3 a0 q3.2).bind fun v8 =>
        (aI 100 v8 a1 q3.2).bind fun v9 =>
        if v9 = 15 then (some ((-2), q3.2))
        else ((gR 9 4 a0 q3.2).bind fun v11 =>
          (gR 9 3 a0 q3.2).bind fun v12 =>
          (aI 100 v12 a1 q3.2).bind fun v13 =>
          (sI v11 ((15 * a1) + v13) a2 q3.2).bind fun h14 =>
          (gR 9 3 a0 h14).bind fun v15 =>
          (aI 100 v15 a1 h14).bind fun v16 =>
          (sI v15 a1 (v16 + 1) h14).bind fun h17 =>
          (gR 9 3 a0 h17).bind fun v18 =>
          (aI 100 v18 a1 h17).bind fun v19 =>
          some ((v19 - 1), h17)))
      else (some ((-1), q3.2))))
abbrev rmX9_method : Room := { frames := 1, cells := 0, slots := 0, locals := 21 }
def fX9_method_b158 (l0 : Option Nat) (l5 : Int32) (h : zH) : Option (Int32 × zH) :=
  (gI 9 6 l0 h).bind fun v1 =>
  (pI 9 6 l0 (v1 + 1) h).bind fun h2 =>
  some (l5, h2)
def fX9_method_b67 (l0 : Option Nat) (l1 : Int32) (l2 : Int32) (l3 : Int32) (l4 : Int32) (h : zH) : Option (Int32 × zH) :=
  (gI 9 6 l0 h).bind fun v1 =>
  if v1 = 64 then (some ((-2), h))
  else ((gI 9 6 l0 h).bind fun v3 =>
    (gR 9 7 l0 h).bind fun v4 =>
    (sI v4 v3 l1 h).bind fun h5 =>
    (gR 9 8 l0 h5).bind fun v6 =>
    (sI v6 v3 l2 h5).bind fun h7 =>
    (gR 9 9 l0 h7).bind fun v8 =>
    (sI v8 v3 l3 h7).bind fun h9 =>
    (gR 9 10 l0 h9).bind fun v10 =>
    (sI v10 v3 l4 h9).bind fun h11 =>
    (gR 9 11 l0 h11).bind fun v12 =>
    (sI v12 v3 0 h11).bind fun h13 =>
    if l1 < 0 then (fX9_method_b158 l0 v3 h13)
    else ((gR 9 12 l0 h13).bind fun v15 =>
      (sI v15 (8 * v3) (1 + l1) h13).bind fun h16 =>
      (gR 9 11 l0 h16).bind fun v17 =>
      (sI v17 v3 1 h16).bind fun h18 =>
      (gR 9 2 l0 h18).bind fun v19 =>
      (sZ v19 l1 1 h18).bind fun h20 =>
      fX9_method_b158 l0 v3 h20))
def fX9_method_b26 (l0 : Option Nat) (l1 : Int32) (l2 : Int32) (l3 : Int32) (l4 : Int32) (h : zH) : Option (Int32 × zH) :=
  if l3 < 0 then (some ((-1), h))
  else (if l4 < 0 then (some ((-1), h))
    else (if 12 < l3 then (some ((-1), h))
      else (if 12 < l4 then (some ((-1), h))
        else (if 12 < (l3 + l4) then (some ((-1), h))
          else (if l1 < 0 then (fX9_method_b67 l0 l1 l2 l3 l4 h)
            else (if l3 = 0 then (some ((-1), h))
              else (fX9_method_b67 l0 l1 l2 l3 l4 h)))))))
def fX9_method_b13 (l0 : Option Nat) (l1 : Int32) (l2 : Int32) (l3 : Int32) (l4 : Int32) (h : zH) : Option (Int32 × zH) :=
  if l2 = (-1) then (fX9_method_b26 l0 l1 l2 l3 l4 h)
  else ((rc 9 l0 h).bind fun _ =>
    (fX9_isType l0 l2 h).bind fun q2 =>
    if q2.1 = 0 then (some ((-1), q2.2))
    else (fX9_method_b26 l0 l1 l2 l3 l4 q2.2))
def fX9_method (a0 : Option Nat) (a1 : Int32) (a2 : Int32) (a3 : Int32) (a4 : Int32) (h : zH) : Option (Int32 × zH) :=
  if a1 = (-1) then (fX9_method_b13 a0 a1 a2 a3 a4 h)
  else ((rc 9 a0 h).bind fun _ =>
    (fX9_isClass a0 a1 h).bind fun q2 =>
    if q2.1 = 0 then (some ((-1), q2.2))
    else (fX9_method_b13 a0 a1 a2 a3 a4 q2.2))
abbrev rmX9_parameter : Room := { frames := 1, cells := 0, slots := 0, locals := 21 }
def fX9_parameter (a0 : Option Nat) (a1 : Int32) (a2 : Int32) (h : zH) : Option (Int32 × zH) :=
  (rc 9 a0 h).bind fun _ =>
  (fX9_isMethod a0 a1 h).bind fun q1 =>
  if q1.1 = 0 then (some ((-1), q1.2))
  else ((rc 9 a0 q1.2).bind fun _ =>
    (fX9_isType a0 a2 q1.2).bind fun q3 =>
    if q3.1 = 0 then (some ((-1), q3.2))
    else ((gR 9 11 a0 q3.2).bind fun v5 =>
      (aI 100 v5 a1 q3.2).bind fun v6 =>
      (gR 9 9 a0 q3.2).bind fun v7 =>
      (aI 100 v7 a1 q3.2).bind fun v8 =>
      if v8 ≤ v6 then (some ((-1), q3.2))
      else ((gR 9 11 a0 q3.2).bind fun v10 =>
        (aI 100 v10 a1 q3.2).bind fun v11 =>
        if v11 = 8 then (some ((-1), q3.2))
        else ((gR 9 14 a0 q3.2).bind fun v13 =>
          (aI 100 v13 a1 q3.2).bind fun v14 =>
          if 0 < v14 then (some ((-1), q3.2))
          else ((gR 9 13 a0 q3.2).bind fun v16 =>
            (aI 101 v16 a1 q3.2).bind fun v17 =>
            if v17 = 0 then ((gR 9 12 a0 q3.2).bind fun v19 =>
              (gR 9 11 a0 q3.2).bind fun v20 =>
              (aI 100 v20 a1 q3.2).bind fun v21 =>
              (sI v19 ((8 * a1) + v21) a2 q3.2).bind fun h22 =>
              (gR 9 11 a0 h22).bind fun v23 =>
              (aI 100 v23 a1 h22).bind fun v24 =>
              (sI v23 a1 (v24 + 1) h22).bind fun h25 =>
              (gR 9 23 a0 h25).bind fun v26 =>
              (sZ v26 a1 0 h25).bind fun h27 =>
              (gR 9 11 a0 h27).bind fun v28 =>
              (aI 100 v28 a1 h27).bind fun v29 =>
              some (v29, h27))
            else (some ((-1), q3.2)))))))
abbrev rmX9_isLike : Room := { frames := 0, cells := 0, slots := 0, locals := 0 }
def fX9_isLike_b86 (N : Nat) (k39 : Option Nat → Int32 → Int32 → Int32 → Int32 → zH → Option (Int32 × zH)) (l0 : Option Nat) (l1 : Int32) (l2 : Int32) (l4 : Int32) (s0 : Int32) (h : zH) : Option (Int32 × zH) :=
  k39 l0 l1 l2 s0 (l4 + 1) h
def fX9_isLike_b39 (N : Nat) : Nat → Option Nat → Int32 → Int32 → Int32 → Int32 → zH → Option (Int32 × zH)
  | 0, _, _, _, _, _, _ => none
  | n + 1, l0, l1, l2, l3, l4, h =>
  (gR 9 11 l0 h).bind fun v1 =>
  (aI 100 v1 l1 h).bind fun v2 =>
  if v2 ≤ l4 then (rZ l3 h)
  else (if l3 = 0 then (rZ l3 h)
    else ((gR 9 12 l0 h).bind fun v5 =>
      (aI 100 v5 ((8 * l1) + l4) h).bind fun v6 =>
      (gR 9 12 l0 h).bind fun v7 =>
      (aI 100 v7 ((8 * l2) + l4) h).bind fun v8 =>
      if v6 = v8 then (fX9_isLike_b86 N (fX9_isLike_b39 N n) l0 l1 l2 l4 1 h)
      else (fX9_isLike_b86 N (fX9_isLike_b39 N n) l0 l1 l2 l4 0 h)))
def fX9_isLike_b35 (N : Nat) (l0 : Option Nat) (l1 : Int32) (l2 : Int32) (s0 : Int32) (h : zH) : Option (Int32 × zH) :=
  fX9_isLike_b39 N N l0 l1 l2 s0 1 h
def fX9_isLike_b34 (N : Nat) (l0 : Option Nat) (l1 : Int32) (l2 : Int32) (h : zH) : Option (Int32 × zH) :=
  fX9_isLike_b35 N l0 l1 l2 0 h
def fX9_isLike (N : Nat) (a0 : Option Nat) (a1 : Int32) (a2 : Int32) (h : zH) : Option (Int32 × zH) :=
  (gR 9 11 a0 h).bind fun v1 =>
  (aI 100 v1 a1 h).bind fun v2 =>
  (gR 9 11 a0 h).bind fun v3 =>
  (aI 100 v3 a2 h).bind fun v4 =>
  if v2 = v4 then ((gR 9 8 a0 h).bind fun v6 =>
    (aI 100 v6 a1 h).bind fun v7 =>
    (gR 9 8 a0 h).bind fun v8 =>
    (aI 100 v8 a2 h).bind fun v9 =>
    if v7 = v9 then (fX9_isLike_b35 N a0 a1 a2 1 h)
    else (fX9_isLike_b34 N a0 a1 a2 h))
  else (fX9_isLike_b34 N a0 a1 a2 h)
abbrev rmX9_slot : Room := { frames := 1, cells := 0, slots := 0, locals := 24 }
def fX9_slot_b97 (N : Nat) (l0 : Option Nat) (l1 : Int32) (l2 : Int32) (l3 : Int32) (h : zH) : Option (Int32 × zH) :=
  (gR 9 5 l0 h).bind fun v1 =>
  (sI v1 ((16 * l3) + l2) l1 h).bind fun h2 =>
  (gR 9 13 l0 h2).bind fun v3 =>
  (sZ v3 l1 1 h2).bind fun h4 =>
  some (1, h4)
def fX9_slot_b39 (N : Nat) : Nat → Option Nat → Int32 → Int32 → Int32 → Int32 → zH → Option (Int32 × zH)
  | 0, _, _, _, _, _, _ => none
  | n + 1, l0, l1, l2, l3, l4, h =>
  (gI 9 0 l0 h).bind fun v1 =>
  if v1 ≤ l4 then ((gR 9 5 l0 h).bind fun v3 =>
    (aI 100 v3 ((16 * l3) + l2) h).bind fun v4 =>
    if v4 < 0 then (fX9_slot_b97 N l0 l1 l2 l3 h)
    else ((rc 9 l0 h).bind fun _ =>
      (fX9_isLike N l0 l1 v4 h).bind fun q6 =>
      if q6.1 = 0 then (some (0, q6.2))
      else (fX9_slot_b97 N l0 l1 l2 l3 q6.2)))
  else ((gR 9 1 l0 h).bind fun v8 =>
    (aI 100 v8 l4 h).bind fun v9 =>
    if v9 = l3 then (some (0, h))
    else (fX9_slot_b39 N n l0 l1 l2 l3 (l4 + 1) h))
def fX9_slot (N : Nat) (a0 : Option Nat) (a1 : Int32) (a2 : Int32) (h : zH) : Option (Int32 × zH) :=
  (rc 9 a0 h).bind fun _ =>
  (fX9_isMethod a0 a1 h).bind fun q1 =>
  if q1.1 = 0 then (some (0, q1.2))
  else (if a2 < 0 then (some (0, q1.2))
    else (if 16 ≤ a2 then (some (0, q1.2))
      else ((gR 9 7 a0 q1.2).bind fun v5 =>
        (aI 100 v5 a1 q1.2).bind fun v6 =>
        if 0 ≤ v6 then ((gR 9 7 a0 q1.2).bind fun v8 =>
          (aI 100 v8 a1 q1.2).bind fun v9 =>
          fX9_slot_b39 N N a0 a1 a2 v9 0 q1.2)
        else (some (0, q1.2)))))
abbrev rmX9_isGood : Room := { frames := 1, cells := 0, slots := 0, locals := 21 }
def fX9_isGood_b300  (h : zH) : Option (Int32 × zH) :=
  some (1, h)
def fX9_isGood (a0 : Option Nat) (a1 : Int32) (a2 : Int32) (a3 : Int32) (a4 : Int32) (h : zH) : Option (Int32 × zH) :=
  if a2 = 2 then (if a3 < 0 then (some (0, h))
    else ((gR 9 9 a0 h).bind fun v3 =>
      (aI 100 v3 a1 h).bind fun v4 =>
      if v4 ≤ a3 then (some (0, h))
      else (some (1, h))))
  else if a2 = 3 then (if a3 < 0 then (some (0, h))
    else ((gR 9 9 a0 h).bind fun v8 =>
      (aI 100 v8 a1 h).bind fun v9 =>
      if v9 ≤ a3 then (some (0, h))
      else (some (1, h))))
  else if a2 = 26 then ((rc 9 a0 h).bind fun _ =>
    (fX9_isClass a0 a3 h).bind fun q12 =>
    rZ q12.1 q12.2)
  else if a2 = 27 then ((rc 9 a0 h).bind fun _ =>
    (fX9_isClass a0 a3 h).bind fun q14 =>
    if q14.1 = 0 then (some (0, q14.2))
    else (if a4 < 0 then (some (0, q14.2))
      else ((gR 9 3 a0 q14.2).bind fun v17 =>
        (aI 100 v17 a3 q14.2).bind fun v18 =>
        if v18 ≤ a4 then (some (0, q14.2))
        else (some (1, q14.2)))))
  else if a2 = 28 then ((rc 9 a0 h).bind fun _ =>
    (fX9_isClass a0 a3 h).bind fun q21 =>
    if q21.1 = 0 then (some (0, q21.2))
    else (if a4 < 0 then (some (0, q21.2))
      else ((gR 9 3 a0 q21.2).bind fun v24 =>
        (aI 100 v24 a3 q21.2).bind fun v25 =>
        if v25 ≤ a4 then (some (0, q21.2))
        else (some (1, q21.2)))))
  else if a2 = 29 then ((rc 9 a0 h).bind fun _ =>
    (fX9_isClass a0 a3 h).bind fun q28 =>
    rZ q28.1 q28.2)
  else if a2 = 30 then ((rc 9 a0 h).bind fun _ =>
    (fX9_isClass a0 a3 h).bind fun q30 =>
    rZ q30.1 q30.2)
  else if a2 = 31 then (if a3 < 0 then (some (0, h))
    else ((gI 9 0 a0 h).bind fun v33 =>
      if v33 < a3 then (some (0, h))
      else (some (1, h))))
  else if a2 = 35 then ((rc 9 a0 h).bind fun _ =>
    (fX9_isMethod a0 a3 h).bind fun q36 =>
    rZ q36.1 q36.2)
  else if a2 = 36 then ((rc 9 a0 h).bind fun _ =>
    (fX9_isClass a0 a3 h).bind fun q38 =>
    if q38.1 = 0 then (some (0, q38.2))
    else (if a4 < 0 then (some (0, q38.2))
      else (if 16 ≤ a4 then (some (0, q38.2))
        else ((gR 9 5 a0 q38.2).bind fun v42 =>
          (aI 100 v42 ((16 * a3) + a4) q38.2).bind fun v43 =>
          if v43 < 0 then (some (0, q38.2))
          else (some (1, q38.2))))))
  else (if a2 < 19 then (fX9_isGood_b300 h)
  else (if 25 < a2 then (fX9_isGood_b300 h)
    else (if a3 < 0 then (some (0, h))
      else (if 200 ≤ a3 then (some (0, h))
        else (fX9_isGood_b300 h)))))
abbrev rmX9_op : Room := { frames := 2, cells := 0, slots := 0, locals := 45 }
def fX9_op (a0 : Option Nat) (a1 : Int32) (a2 : Int32) (a3 : Int32) (a4 : Int32) (h : zH) : Option (Int32 × zH) :=
  (rc 9 a0 h).bind fun _ =>
  (fX9_isMethod a0 a1 h).bind fun q1 =>
  if q1.1 = 0 then (some ((-1), q1.2))
  else (if a2 < 0 then (some ((-1), q1.2))
    else (if 41 < a2 then (some ((-1), q1.2))
      else ((rc 9 a0 q1.2).bind fun _ =>
        (fX9_isGood a0 a1 a2 a3 a4 q1.2).bind fun q5 =>
        if q5.1 = 0 then (some ((-1), q5.2))
        else ((gR 9 14 a0 q5.2).bind fun v7 =>
          (aI 100 v7 a1 q5.2).bind fun v8 =>
          if v8 = 200 then (some ((-2), q5.2))
          else ((gR 9 14 a0 q5.2).bind fun v10 =>
            (aI 100 v10 a1 q5.2).bind fun v11 =>
            (gR 9 15 a0 q5.2).bind fun v12 =>
            (sI v12 ((200 * a1) + v11) a2 q5.2).bind fun h13 =>
            (gR 9 16 a0 h13).bind fun v14 =>
            (sI v14 ((200 * a1) + v11) a3 h13).bind fun h15 =>
            (gR 9 17 a0 h15).bind fun v16 =>
            (sI v16 ((200 * a1) + v11) a4 h15).bind fun h17 =>
            (gR 9 14 a0 h17).bind fun v18 =>
            (aI 100 v18 a1 h17).bind fun v19 =>
            (sI v18 a1 (v19 + 1) h17).bind fun h20 =>
            (gR 9 23 a0 h20).bind fun v21 =>
            (sZ v21 a1 0 h20).bind fun h22 =>
            (gR 9 14 a0 h22).bind fun v23 =>
            (aI 100 v23 a1 h22).bind fun v24 =>
            some ((v24 - 1), h22))))))
abbrev rmX9_handler : Room := { frames := 1, cells := 0, slots := 0, locals := 21 }
def fX9_handler (a0 : Option Nat) (a1 : Int32) (a2 : Int32) (a3 : Int32) (a4 : Int32) (a5 : Int32) (h : zH) : Option (Int32 × zH) :=
  (rc 9 a0 h).bind fun _ =>
  (fX9_isMethod a0 a1 h).bind fun q1 =>
  if q1.1 = 0 then (some ((-1), q1.2))
  else ((rc 9 a0 q1.2).bind fun _ =>
    (fX9_isClass a0 a4 q1.2).bind fun q3 =>
    if q3.1 = 0 then (some ((-1), q3.2))
    else (if a2 < 0 then (some ((-1), q3.2))
      else (if a3 ≤ a2 then (some ((-1), q3.2))
        else (if 200 < a3 then (some ((-1), q3.2))
          else (if a5 < 0 then (some ((-1), q3.2))
            else (if a5 < 200 then ((gR 9 18 a0 q3.2).bind fun v10 =>
                (aI 100 v10 a1 q3.2).bind fun v11 =>
                if v11 = 8 then (some ((-2), q3.2))
                else ((gR 9 18 a0 q3.2).bind fun v13 =>
                  (aI 100 v13 a1 q3.2).bind fun v14 =>
                  (gR 9 19 a0 q3.2).bind fun v15 =>
                  (sI v15 ((8 * a1) + v14) a2 q3.2).bind fun h16 =>
                  (gR 9 20 a0 h16).bind fun v17 =>
                  (sI v17 ((8 * a1) + v14) a3 h16).bind fun h18 =>
                  (gR 9 21 a0 h18).bind fun v19 =>
                  (sI v19 ((8 * a1) + v14) a4 h18).bind fun h20 =>
                  (gR 9 22 a0 h20).bind fun v21 =>
                  (sI v21 ((8 * a1) + v14) a5 h20).bind fun h22 =>
                  (gR 9 18 a0 h22).bind fun v23 =>
                  (aI 100 v23 a1 h22).bind fun v24 =>
                  (sI v23 a1 (v24 + 1) h22).bind fun h25 =>
                  (gR 9 23 a0 h25).bind fun v26 =>
                  (sZ v26 a1 0 h25).bind fun h27 =>
                  (gR 9 18 a0 h27).bind fun v28 =>
                  (aI 100 v28 a1 h27).bind fun v29 =>
                  some ((v29 - 1), h27)))
              else (some ((-1), q3.2))))))))
abbrev rmX9_goes : Room := { frames := 1, cells := 0, slots := 0, locals := 23 }
def fX9_goes_b51 (N : Nat)  (h : zH) : Option (Int32 × zH) :=
  some (1, h)
def fX9_goes_b24 (N : Nat) (l0 : Option Nat) (l1 : Int32) (l2 : Int32) (h : zH) : Option (Int32 × zH) :=
  (fX9_isSome l1 h).bind fun q1 =>
  if q1.1 = 0 then (some (0, q1.2))
  else ((fX9_isSome l2 q1.2).bind fun q3 =>
    if q3.1 = 0 then (some (0, q3.2))
    else ((rc 9 l0 q3.2).bind fun _ =>
      (fX9_isUnder N l0 (l1 - 1) (l2 - 1) q3.2).bind fun q5 =>
      if q5.1 = 0 then (some (0, q5.2))
      else (fX9_goes_b51 N q5.2)))
def fX9_goes (N : Nat) (a0 : Option Nat) (a1 : Int32) (a2 : Int32) (h : zH) : Option (Int32 × zH) :=
  if a1 = a2 then (fX9_goes_b51 N h)
  else (if a1 = 97 then ((fX9_isReference a2 h).bind fun q3 =>
      if q3.1 = 0 then (fX9_goes_b24 N a0 a1 a2 q3.2)
      else (if a2 = 98 then (fX9_goes_b24 N a0 a1 a2 q3.2)
        else (fX9_goes_b51 N q3.2)))
    else (fX9_goes_b24 N a0 a1 a2 h))
abbrev rmX9_meet : Room := { frames := 1, cells := 0, slots := 0, locals := 23 }
def fX9_meet_b91 (N : Nat) (l3 : Int32) (h : zH) : Option (Int32 × zH) :=
  if 0 ≤ l3 then (some ((1 + l3), h))
  else (some (98, h))
def fX9_meet_b66 (N : Nat) : Nat → Option Nat → Int32 → Int32 → zH → Option (Int32 × zH)
  | 0, _, _, _, _ => none
  | n + 1, l0, l2, l3, h =>
  if l3 < 0 then (fX9_meet_b91 N l3 h)
  else ((rc 9 l0 h).bind fun _ =>
    (fX9_isUnder N l0 (l2 - 1) l3 h).bind fun q2 =>
    if q2.1 = 0 then ((gR 9 1 l0 q2.2).bind fun v4 =>
      (aI 100 v4 l3 q2.2).bind fun v5 =>
      fX9_meet_b66 N n l0 l2 v5 q2.2)
    else (fX9_meet_b91 N l3 q2.2))
def fX9_meet_b36 (N : Nat) (l1 : Int32) (l2 : Int32) (h : zH) : Option (Int32 × zH) :=
  if l1 = 97 then (some (l2, h))
  else (some (l1, h))
def fX9_meet (N : Nat) (a0 : Option Nat) (a1 : Int32) (a2 : Int32) (h : zH) : Option (Int32 × zH) :=
  if a1 = a2 then (some (a1, h))
  else ((fX9_isReference a1 h).bind fun q2 =>
    if q2.1 = 0 then (some (99, q2.2))
    else ((fX9_isReference a2 q2.2).bind fun q4 =>
      if q4.1 = 0 then (some (99, q4.2))
      else (if a1 = 97 then (fX9_meet_b36 N a1 a2 q4.2)
        else (if a2 = 97 then (fX9_meet_b36 N a1 a2 q4.2)
          else ((fX9_isSome a1 q4.2).bind fun q8 =>
            if q8.1 = 0 then (some (98, q8.2))
            else ((fX9_isSome a2 q8.2).bind fun q10 =>
              if q10.1 = 0 then (some (98, q10.2))
              else (fX9_meet_b66 N N a0 a2 (a1 - 1) q10.2)))))))
abbrev rmX9_come : Room := { frames := 2, cells := 0, slots := 0, locals := 46 }
def fX9_come_b216 (N : Nat) (k122 : Option Nat → Int32 → Int32 → Int32 → Int32 → zH → Option (Int32 × zH)) (l0 : Option Nat) (l2 : Int32) (l3 : Int32) (l4 : Int32) (l5 : Int32) (l6 : Int32) (s0 : Int32) (s1 : Int32) (s2 : Option Nat) (h : zH) : Option (Int32 × zH) :=
  (sZ s2 s1 s0 h).bind fun h1 =>
  (gR 9 25 l0 h1).bind fun v2 =>
  (sI v2 ((12 * l4) + l5) l6 h1).bind fun h3 =>
  k122 l0 l2 l3 l4 (l5 + 1) h3
def fX9_come_b211 (N : Nat) (k122 : Option Nat → Int32 → Int32 → Int32 → Int32 → zH → Option (Int32 × zH)) (l0 : Option Nat) (l2 : Int32) (l3 : Int32) (l4 : Int32) (l5 : Int32) (l6 : Int32) (s0 : Int32) (s1 : Option Nat) (h : zH) : Option (Int32 × zH) :=
  fX9_come_b216 N k122 l0 l2 l3 l4 l5 l6 1 s0 s1 h
def fX9_come_b179 (N : Nat) (k122 : Option Nat → Int32 → Int32 → Int32 → Int32 → zH → Option (Int32 × zH)) (l0 : Option Nat) (l2 : Int32) (l3 : Int32) (l4 : Int32) (l5 : Int32) (l6 : Int32) (h : zH) : Option (Int32 × zH) :=
  (gR 9 26 l0 h).bind fun v1 =>
  (gR 9 26 l0 h).bind fun v2 =>
  (aI 101 v2 l2 h).bind fun v3 =>
  if v3 = 0 then ((gR 9 25 l0 h).bind fun v5 =>
    (aI 100 v5 ((12 * l4) + l5) h).bind fun v6 =>
    if l6 = v6 then (fX9_come_b216 N k122 l0 l2 l3 l4 l5 l6 0 l2 v1 h)
    else (fX9_come_b211 N k122 l0 l2 l3 l4 l5 l6 l2 v1 h))
  else (fX9_come_b211 N k122 l0 l2 l3 l4 l5 l6 l2 v1 h)
def fX9_come_b122 (N : Nat) : Nat → Option Nat → Int32 → Int32 → Int32 → Int32 → zH → Option (Int32 × zH)
  | 0, _, _, _, _, _, _ => none
  | n + 1, l0, l2, l3, l4, l5, h =>
  (gI 9 29 l0 h).bind fun v1 =>
  if (l3 + v1) ≤ l5 then (some (1, h))
  else ((gR 9 25 l0 h).bind fun v3 =>
    (aI 100 v3 ((12 * l4) + l5) h).bind fun v4 =>
    (gR 9 28 l0 h).bind fun v5 =>
    (aI 100 v5 l5 h).bind fun v6 =>
    (rc 9 l0 h).bind fun _ =>
    (fX9_meet N l0 v4 v6 h).bind fun q7 =>
    if l5 < l3 then (fX9_come_b179 N (fX9_come_b122 N n) l0 l2 l3 l4 l5 q7.1 q7.2)
    else (if q7.1 = 99 then ((pI 9 31 l0 l2 q7.2).bind fun h10 =>
        some (0, h10))
      else (fX9_come_b179 N (fX9_come_b122 N n) l0 l2 l3 l4 l5 q7.1 q7.2)))
def fX9_come_b52 (N : Nat) : Nat → Option Nat → Int32 → Int32 → Int32 → Int32 → zH → Option (Int32 × zH)
  | 0, _, _, _, _, _, _ => none
  | n + 1, l0, l2, l3, l4, l5, h =>
  (gI 9 29 l0 h).bind fun v1 =>
  if (l3 + v1) ≤ l5 then ((gR 9 26 l0 h).bind fun v3 =>
    (sZ v3 l2 1 h).bind fun h4 =>
    some (1, h4))
  else ((gR 9 25 l0 h).bind fun v5 =>
    (gR 9 28 l0 h).bind fun v6 =>
    (aI 100 v6 l5 h).bind fun v7 =>
    (sI v5 ((12 * l4) + l5) v7 h).bind fun h8 =>
    fX9_come_b52 N n l0 l2 l3 l4 (l5 + 1) h8)
def fX9_come (N : Nat) (a0 : Option Nat) (a1 : Int32) (a2 : Int32) (h : zH) : Option (Int32 × zH) :=
  (gR 9 14 a0 h).bind fun v1 =>
  (aI 100 v1 a1 h).bind fun v2 =>
  if a2 < v2 then ((gR 9 9 a0 h).bind fun v4 =>
    (aI 100 v4 a1 h).bind fun v5 =>
    (gR 9 24 a0 h).bind fun v6 =>
    (aI 100 v6 ((200 * a1) + a2) h).bind fun v7 =>
    if 0 ≤ v7 then ((gR 9 24 a0 h).bind fun v9 =>
      (aI 100 v9 ((200 * a1) + a2) h).bind fun v10 =>
      (gI 9 29 a0 h).bind fun v11 =>
      if v10 = v11 then (fX9_come_b122 N N a0 a2 v5 ((200 * a1) + a2) 0 h)
      else ((pI 9 31 a0 a2 h).bind fun h13 =>
        some (0, h13)))
    else ((gR 9 24 a0 h).bind fun v14 =>
      (gI 9 29 a0 h).bind fun v15 =>
      (sI v14 ((200 * a1) + a2) v15 h).bind fun h16 =>
      fX9_come_b52 N N a0 a2 v5 ((200 * a1) + a2) 0 h16))
  else (some (0, h))
abbrev rmX9_takeUp : Room := { frames := 0, cells := 0, slots := 0, locals := 0 }
def fX9_takeUp_b26 (N : Nat) : Nat → Option Nat → Int32 → Int32 → Int32 → zH → Option (zH)
  | 0, _, _, _, _, _ => none
  | n + 1, l0, l1, l3, l4, h =>
  (gR 9 9 l0 h).bind fun v1 =>
  (aI 100 v1 l1 h).bind fun v2 =>
  (gI 9 29 l0 h).bind fun v3 =>
  if (v2 + v3) ≤ l4 then (some h)
  else ((gR 9 28 l0 h).bind fun v5 =>
    (gR 9 25 l0 h).bind fun v6 =>
    (aI 100 v6 ((12 * l3) + l4) h).bind fun v7 =>
    (sI v5 l4 v7 h).bind fun h8 =>
    fX9_takeUp_b26 N n l0 l1 l3 (l4 + 1) h8)
def fX9_takeUp (N : Nat) (a0 : Option Nat) (a1 : Int32) (a2 : Int32) (h : zH) : Option (zH) :=
  (gR 9 24 a0 h).bind fun v1 =>
  (aI 100 v1 ((200 * a1) + a2) h).bind fun v2 =>
  (pI 9 29 a0 v2 h).bind fun h3 =>
  (pI 9 30 a0 a1 h3).bind fun h4 =>
  fX9_takeUp_b26 N N a0 a1 ((200 * a1) + a2) 0 h4
abbrev rmX9_push : Room := { frames := 0, cells := 0, slots := 0, locals := 0 }
def fX9_push (a0 : Option Nat) (a1 : Int32) (h : zH) : Option (Int32 × zH) :=
  (gI 9 29 a0 h).bind fun v1 =>
  (gR 9 10 a0 h).bind fun v2 =>
  (gI 9 30 a0 h).bind fun v3 =>
  (aI 100 v2 v3 h).bind fun v4 =>
  if v1 = v4 then (some (0, h))
  else ((gR 9 28 a0 h).bind fun v6 =>
    (gR 9 9 a0 h).bind fun v7 =>
    (gI 9 30 a0 h).bind fun v8 =>
    (aI 100 v7 v8 h).bind fun v9 =>
    (gI 9 29 a0 h).bind fun v10 =>
    (sI v6 (v9 + v10) a1 h).bind fun h11 =>
    (gI 9 29 a0 h11).bind fun v12 =>
    (pI 9 29 a0 (v12 + 1) h11).bind fun h13 =>
    some (1, h13))
abbrev rmX9_pop : Room := { frames := 0, cells := 0, slots := 0, locals := 0 }
def fX9_pop (a0 : Option Nat) (h : zH) : Option (Int32 × zH) :=
  (gI 9 29 a0 h).bind fun v1 =>
  if v1 = 0 then (some ((-1), h))
  else ((gI 9 29 a0 h).bind fun v3 =>
    (pI 9 29 a0 (v3 - 1) h).bind fun h4 =>
    (gR 9 28 a0 h4).bind fun v5 =>
    (gR 9 9 a0 h4).bind fun v6 =>
    (gI 9 30 a0 h4).bind fun v7 =>
    (aI 100 v6 v7 h4).bind fun v8 =>
    (gI 9 29 a0 h4).bind fun v9 =>
    (aI 100 v5 (v8 + v9) h4).bind fun v10 =>
    some (v10, h4))
abbrev rmX9_popInto : Room := { frames := 2, cells := 0, slots := 0, locals := 45 }
def fX9_popInto (N : Nat) (a0 : Option Nat) (a1 : Int32) (h : zH) : Option (Int32 × zH) :=
  (rc 9 a0 h).bind fun _ =>
  (fX9_pop a0 h).bind fun q1 =>
  if q1.1 = (-1) then (some (0, q1.2))
  else ((rc 9 a0 q1.2).bind fun _ =>
    (fX9_goes N a0 q1.1 a1 q1.2).bind fun q3 =>
    if q3.1 = 0 then (some (0, q3.2))
    else (some (1, q3.2)))
abbrev rmX9_popReference : Room := { frames := 1, cells := 0, slots := 0, locals := 20 }
def fX9_popReference (a0 : Option Nat) (h : zH) : Option (Int32 × zH) :=
  (rc 9 a0 h).bind fun _ =>
  (fX9_pop a0 h).bind fun q1 =>
  if q1.1 = (-1) then (some (0, q1.2))
  else ((fX9_isReference q1.1 q1.2).bind fun q3 =>
    if q3.1 = 0 then (some (0, q3.2))
    else (some (1, q3.2)))
abbrev rmX9_ints : Room := { frames := 1, cells := 0, slots := 0, locals := 20 }
def fX9_ints_b2 (N : Nat) : Nat → Option Nat → Int32 → Int32 → zH → Option (Int32 × zH)
  | 0, _, _, _, _ => none
  | n + 1, l0, l1, l2, h =>
  if l1 ≤ l2 then (some (1, h))
  else ((rc 9 l0 h).bind fun _ =>
    (fX9_pop l0 h).bind fun q2 =>
    if q2.1 = 0 then (fX9_ints_b2 N n l0 l1 (l2 + 1) q2.2)
    else (some (0, q2.2)))
def fX9_ints (N : Nat) (a0 : Option Nat) (a1 : Int32) (h : zH) : Option (Int32 × zH) :=
  fX9_ints_b2 N N a0 a1 0 h
abbrev rmX9_parameters : Room := { frames := 3, cells := 0, slots := 0, locals := 67 }
def fX9_parameters_b9 (N : Nat) : Nat → Option Nat → Int32 → Int32 → Int32 → zH → Option (Int32 × zH)
  | 0, _, _, _, _, _ => none
  | n + 1, l0, l1, l2, l3, h =>
  if l3 < l2 then (some (1, h))
  else ((gR 9 12 l0 h).bind fun v2 =>
    (aI 100 v2 ((8 * l1) + l3) h).bind fun v3 =>
    (rc 9 l0 h).bind fun _ =>
    (fX9_popInto N l0 v3 h).bind fun q4 =>
    if q4.1 = 0 then (some (0, q4.2))
    else (fX9_parameters_b9 N n l0 l1 l2 (l3 + (-1)) q4.2))
def fX9_parameters (N : Nat) (a0 : Option Nat) (a1 : Int32) (a2 : Int32) (h : zH) : Option (Int32 × zH) :=
  (gR 9 11 a0 h).bind fun v1 =>
  (aI 100 v1 a1 h).bind fun v2 =>
  fX9_parameters_b9 N N a0 a1 a2 (v2 - 1) h
abbrev rmX9_given : Room := { frames := 1, cells := 0, slots := 0, locals := 21 }
def fX9_given_b22  (h : zH) : Option (Int32 × zH) :=
  some (1, h)
def fX9_given (a0 : Option Nat) (a1 : Int32) (h : zH) : Option (Int32 × zH) :=
  (gR 9 8 a0 h).bind fun v1 =>
  (aI 100 v1 a1 h).bind fun v2 =>
  if v2 < 0 then (fX9_given_b22 h)
  else ((gR 9 8 a0 h).bind fun v4 =>
    (aI 100 v4 a1 h).bind fun v5 =>
    (rc 9 a0 h).bind fun _ =>
    (fX9_push a0 v5 h).bind fun q6 =>
    if q6.1 = 0 then (some (0, q6.2))
    else (fX9_given_b22 q6.2))
abbrev rmX9_rows : Room := { frames := 2, cells := 0, slots := 0, locals := 45 }
def fX9_rows_b200 (N : Nat) (s0 : Int32) (s1 : Option Nat) (h : zH) : Option (Int32 × zH) :=
  (rc 9 s1 h).bind fun _ =>
  (fX9_push s1 s0 h).bind fun q1 =>
  if q1.1 = 0 then (some (0, q1.2))
  else (some (1, q1.2))
def fX9_rows_b165 (N : Nat) (l0 : Option Nat) (l1 : Int32) (l4 : Int32) (s0 : Int32) (h : zH) : Option (Int32 × zH) :=
  if s0 = 0 then (some (0, h))
  else (if l1 = 32 then (fX9_rows_b200 N 0 l0 h)
    else (if l4 = 97 then (fX9_rows_b200 N 97 l0 h)
      else (fX9_rows_b200 N (l4 - 64) l0 h)))
def fX9_rows_b160 (N : Nat) (l0 : Option Nat) (l1 : Int32) (l4 : Int32) (h : zH) : Option (Int32 × zH) :=
  fX9_rows_b165 N l0 l1 l4 1 h
def fX9_rows_b143 (N : Nat) (l0 : Option Nat) (l1 : Int32) (s0 : Int32) (h : zH) : Option (Int32 × zH) :=
  if s0 = 97 then (fX9_rows_b160 N l0 l1 s0 h)
  else ((fX9_isRow s0 h).bind fun q2 =>
    if q2.1 = 0 then (fX9_rows_b165 N l0 l1 s0 0 q2.2)
    else (fX9_rows_b160 N l0 l1 s0 q2.2))
def fX9_rows_b130 (N : Nat) (l0 : Option Nat) (l1 : Int32) (s0 : Int32) (h : zH) : Option (Int32 × zH) :=
  if s0 = 0 then (fX9_rows_b143 N l0 l1 (-1) h)
  else ((rc 9 l0 h).bind fun _ =>
    (fX9_pop l0 h).bind fun q2 =>
    fX9_rows_b143 N l0 l1 q2.1 q2.2)
def fX9_rows_b125 (N : Nat) (l0 : Option Nat) (l1 : Int32) (h : zH) : Option (Int32 × zH) :=
  fX9_rows_b130 N l0 l1 1 h
def fX9_rows_b105 (N : Nat)  (h : zH) : Option (Int32 × zH) :=
  some (1, h)
def fX9_rows_b75 (N : Nat) (l0 : Option Nat) (l3 : Int32) (s0 : Int32) (h : zH) : Option (Int32 × zH) :=
  if s0 = 97 then (fX9_rows_b105 N h)
  else ((fX9_isRow s0 h).bind fun q2 =>
    if q2.1 = 0 then (some (0, q2.2))
    else ((rc 9 l0 q2.2).bind fun _ =>
      (fX9_goes N l0 l3 (s0 - 64) q2.2).bind fun q4 =>
      if q4.1 = 0 then (some (0, q4.2))
      else (fX9_rows_b105 N q4.2)))
def fX9_rows_b60 (N : Nat) (l0 : Option Nat) (l3 : Int32) (s0 : Int32) (h : zH) : Option (Int32 × zH) :=
  if s0 = 0 then (fX9_rows_b75 N l0 l3 (-1) h)
  else ((rc 9 l0 h).bind fun _ =>
    (fX9_pop l0 h).bind fun q2 =>
    fX9_rows_b75 N l0 l3 q2.1 q2.2)
def fX9_rows_b59 (N : Nat) (l0 : Option Nat) (l3 : Int32) (h : zH) : Option (Int32 × zH) :=
  fX9_rows_b60 N l0 l3 0 h
def fX9_rows (N : Nat) (a0 : Option Nat) (a1 : Int32) (a2 : Int32) (h : zH) : Option (Int32 × zH) :=
  if a1 = 31 then ((rc 9 a0 h).bind fun _ =>
    (fX9_ints N a0 1 h).bind fun q10 =>
    if q10.1 = 0 then (some (0, q10.2))
    else ((rc 9 a0 q10.2).bind fun _ =>
      (fX9_push a0 (64 + a2) q10.2).bind fun q12 =>
      if q12.1 = 0 then (some (0, q12.2))
      else (some (1, q12.2))))
  else (if a1 = 34 then ((rc 9 a0 h).bind fun _ =>
      (fX9_pop a0 h).bind fun q6 =>
      if q6.1 = (-1) then (fX9_rows_b59 N a0 q6.1 q6.2)
      else ((rc 9 a0 q6.2).bind fun _ =>
        (fX9_ints N a0 1 q6.2).bind fun q8 =>
        if q8.1 = 0 then (fX9_rows_b59 N a0 q6.1 q8.2)
        else (fX9_rows_b60 N a0 q6.1 1 q8.2)))
    else (if a1 = 32 then (fX9_rows_b125 N a0 a1 h)
      else ((rc 9 a0 h).bind fun _ =>
        (fX9_ints N a0 1 h).bind fun q4 =>
        if q4.1 = 0 then (fX9_rows_b130 N a0 a1 0 q4.2)
        else (fX9_rows_b125 N a0 a1 q4.2))))
abbrev rmX9_places : Room := { frames := 1, cells := 0, slots := 0, locals := 21 }
def fX9_places_b177 (l0 : Option Nat) (l4 : Int32) (s0 : Int32) (h : zH) : Option (Int32 × zH) :=
  if s0 = (-1) then (some (0, h))
  else ((rc 9 l0 h).bind fun _ =>
    (fX9_push l0 l4 h).bind fun q2 =>
    if q2.1 = 0 then (some (0, q2.2))
    else ((rc 9 l0 q2.2).bind fun _ =>
      (fX9_push l0 s0 q2.2).bind fun q4 =>
      if q4.1 = 0 then (some (0, q4.2))
      else (some (1, q4.2))))
def fX9_places_b94 (l4 : Int32) (s0 : Int32) (s1 : Int32) (s2 : Option Nat) (h : zH) : Option (Int32 × zH) :=
  (sI s2 s1 s0 h).bind fun h1 =>
  if l4 = (-1) then (some (0, h1))
  else (some (1, h1))
def fX9_places (a0 : Option Nat) (a1 : Int32) (a2 : Int32) (a3 : Int32) (h : zH) : Option (Int32 × zH) :=
  if a2 = 2 then ((gR 9 28 a0 h).bind fun v2 =>
    (aI 100 v2 a3 h).bind fun v3 =>
    if v3 = 99 then (some (0, h))
    else ((gR 9 28 a0 h).bind fun v5 =>
      (aI 100 v5 a3 h).bind fun v6 =>
      (rc 9 a0 h).bind fun _ =>
      (fX9_push a0 v6 h).bind fun q7 =>
      if q7.1 = 0 then (some (0, q7.2))
      else (some (1, q7.2))))
  else if a2 = 3 then ((rc 9 a0 h).bind fun _ =>
    (fX9_pop a0 h).bind fun q10 =>
    (gR 9 28 a0 q10.2).bind fun v11 =>
    if q10.1 = (-1) then ((gR 9 28 a0 q10.2).bind fun v13 =>
      (aI 100 v13 a3 q10.2).bind fun v14 =>
      fX9_places_b94 q10.1 v14 a3 v11 q10.2)
    else (fX9_places_b94 q10.1 q10.1 a3 v11 q10.2))
  else if a2 = 4 then ((rc 9 a0 h).bind fun _ =>
    (fX9_pop a0 h).bind fun q16 =>
    if q16.1 = (-1) then (some (0, q16.2))
    else (some (1, q16.2)))
  else if a2 = 5 then ((rc 9 a0 h).bind fun _ =>
    (fX9_pop a0 h).bind fun q19 =>
    if q19.1 = (-1) then (some (0, q19.2))
    else ((rc 9 a0 q19.2).bind fun _ =>
      (fX9_push a0 q19.1 q19.2).bind fun q21 =>
      if q21.1 = 0 then (some (0, q21.2))
      else ((rc 9 a0 q21.2).bind fun _ =>
        (fX9_push a0 q19.1 q21.2).bind fun q23 =>
        if q23.1 = 0 then (some (0, q23.2))
        else (some (1, q23.2)))))
  else ((rc 9 a0 h).bind fun _ =>
  (fX9_pop a0 h).bind fun q25 =>
  if q25.1 = (-1) then (fX9_places_b177 a0 q25.1 (-1) q25.2)
  else ((rc 9 a0 q25.2).bind fun _ =>
    (fX9_pop a0 q25.2).bind fun q27 =>
    fX9_places_b177 a0 q25.1 q27.1 q27.2))
abbrev rmX9_fits : Room := { frames := 4, cells := 0, slots := 0, locals := 90 }
def fX9_fits_b491 (N : Nat)  (h : zH) : Option (Int32 × zH) :=
  some (1, h)
def fX9_fits_b60 (N : Nat) (l0 : Option Nat) (s0 : Int32) (s1 : Option Nat) (h : zH) : Option (Int32 × zH) :=
  (rc 9 s1 h).bind fun _ =>
  (fX9_ints N s1 s0 h).bind fun q1 =>
  if q1.1 = 0 then (some (0, q1.2))
  else ((rc 9 l0 q1.2).bind fun _ =>
    (fX9_push l0 0 q1.2).bind fun q3 =>
    if q3.1 = 0 then (some (0, q3.2))
    else (some (1, q3.2)))
def fX9_fits_b10 (N : Nat) (l0 : Option Nat) (h : zH) : Option (Int32 × zH) :=
  (rc 9 l0 h).bind fun _ =>
  (fX9_push l0 0 h).bind fun q1 =>
  rZ q1.1 q1.2
def fX9_fits (N : Nat) (a0 : Option Nat) (a1 : Int32) (a2 : Int32) (a3 : Int32) (a4 : Int32) (h : zH) : Option (Int32 × zH) :=
  if a2 = 0 then (fX9_fits_b10 N a0 h)
  else (if a2 = 40 then (fX9_fits_b10 N a0 h)
    else (if a2 = 1 then ((rc 9 a0 h).bind fun _ =>
        (fX9_push a0 97 h).bind fun q89 =>
        rZ q89.1 q89.2)
      else (if 7 ≤ a2 then (if 19 ≤ a2 then (if a2 = 19 then ((rc 9 a0 h).bind fun _ =>
              (fX9_ints N a0 1 h).bind fun q7 =>
              rZ q7.1 q7.2)
            else if a2 = 20 then ((rc 9 a0 h).bind fun _ =>
              (fX9_ints N a0 2 h).bind fun q9 =>
              rZ q9.1 q9.2)
            else if a2 = 21 then ((rc 9 a0 h).bind fun _ =>
              (fX9_popReference a0 h).bind fun q11 =>
              rZ q11.1 q11.2)
            else if a2 = 22 then ((rc 9 a0 h).bind fun _ =>
              (fX9_popReference a0 h).bind fun q13 =>
              rZ q13.1 q13.2)
            else if a2 = 23 then ((rc 9 a0 h).bind fun _ =>
              (fX9_popReference a0 h).bind fun q15 =>
              if q15.1 = 0 then (some (0, q15.2))
              else ((rc 9 a0 q15.2).bind fun _ =>
                (fX9_popReference a0 q15.2).bind fun q17 =>
                if q17.1 = 0 then (some (0, q17.2))
                else (some (1, q17.2))))
            else if a2 = 24 then ((rc 9 a0 h).bind fun _ =>
              (fX9_popReference a0 h).bind fun q20 =>
              if q20.1 = 0 then (some (0, q20.2))
              else ((rc 9 a0 q20.2).bind fun _ =>
                (fX9_popReference a0 q20.2).bind fun q22 =>
                if q22.1 = 0 then (some (0, q22.2))
                else (some (1, q22.2))))
            else if a2 = 25 then (some (1, h))
            else if a2 = 26 then ((rc 9 a0 h).bind fun _ =>
              (fX9_push a0 (1 + a3) h).bind fun q26 =>
              rZ q26.1 q26.2)
            else if a2 = 27 then ((rc 9 a0 h).bind fun _ =>
              (fX9_popInto N a0 (1 + a3) h).bind fun q28 =>
              if q28.1 = 0 then (some (0, q28.2))
              else ((gR 9 4 a0 q28.2).bind fun v30 =>
                (aI 100 v30 ((15 * a3) + a4) q28.2).bind fun v31 =>
                (rc 9 a0 q28.2).bind fun _ =>
                (fX9_push a0 v31 q28.2).bind fun q32 =>
                if q32.1 = 0 then (some (0, q32.2))
                else (some (1, q32.2))))
            else if a2 = 28 then ((gR 9 4 a0 h).bind fun v35 =>
              (aI 100 v35 ((15 * a3) + a4) h).bind fun v36 =>
              (rc 9 a0 h).bind fun _ =>
              (fX9_popInto N a0 v36 h).bind fun q37 =>
              if q37.1 = 0 then (some (0, q37.2))
              else ((rc 9 a0 q37.2).bind fun _ =>
                (fX9_popInto N a0 (1 + a3) q37.2).bind fun q39 =>
                if q39.1 = 0 then (some (0, q39.2))
                else (some (1, q39.2))))
            else if a2 = 29 then ((rc 9 a0 h).bind fun _ =>
              (fX9_popReference a0 h).bind fun q42 =>
              if q42.1 = 0 then (some (0, q42.2))
              else ((rc 9 a0 q42.2).bind fun _ =>
                (fX9_push a0 0 q42.2).bind fun q44 =>
                if q44.1 = 0 then (some (0, q44.2))
                else (some (1, q44.2))))
            else if a2 = 30 then ((rc 9 a0 h).bind fun _ =>
              (fX9_popReference a0 h).bind fun q47 =>
              if q47.1 = 0 then (some (0, q47.2))
              else ((rc 9 a0 q47.2).bind fun _ =>
                (fX9_push a0 (1 + a3) q47.2).bind fun q49 =>
                if q49.1 = 0 then (some (0, q49.2))
                else (some (1, q49.2))))
            else if a2 = 35 then ((rc 9 a0 h).bind fun _ =>
              (fX9_parameters N a0 a3 0 h).bind fun q52 =>
              if q52.1 = 0 then (some (0, q52.2))
              else ((rc 9 a0 q52.2).bind fun _ =>
                (fX9_given a0 a3 q52.2).bind fun q54 =>
                if q54.1 = 0 then (some (0, q54.2))
                else (some (1, q54.2))))
            else if a2 = 36 then ((gR 9 5 a0 h).bind fun v57 =>
              (aI 100 v57 ((16 * a3) + a4) h).bind fun v58 =>
              (rc 9 a0 h).bind fun _ =>
              (fX9_parameters N a0 v58 1 h).bind fun q59 =>
              if q59.1 = 0 then (some (0, q59.2))
              else ((rc 9 a0 q59.2).bind fun _ =>
                (fX9_popInto N a0 (1 + a3) q59.2).bind fun q61 =>
                if q61.1 = 0 then (some (0, q61.2))
                else ((gR 9 5 a0 q61.2).bind fun v63 =>
                  (aI 100 v63 ((16 * a3) + a4) q61.2).bind fun v64 =>
                  (rc 9 a0 q61.2).bind fun _ =>
                  (fX9_given a0 v64 q61.2).bind fun q65 =>
                  if q65.1 = 0 then (some (0, q65.2))
                  else (some (1, q65.2)))))
            else if a2 = 37 then ((gR 9 8 a0 h).bind fun v68 =>
              (aI 100 v68 a1 h).bind fun v69 =>
              if 0 ≤ v69 then (some (0, h))
              else (some (1, h)))
            else if a2 = 38 then ((gR 9 8 a0 h).bind fun v72 =>
              (aI 100 v72 a1 h).bind fun v73 =>
              if v73 < 0 then (some (0, h))
              else ((gR 9 8 a0 h).bind fun v75 =>
                (aI 100 v75 a1 h).bind fun v76 =>
                (rc 9 a0 h).bind fun _ =>
                (fX9_popInto N a0 v76 h).bind fun q77 =>
                if q77.1 = 0 then (some (0, q77.2))
                else (some (1, q77.2))))
            else if a2 = 39 then ((rc 9 a0 h).bind fun _ =>
              (fX9_pop a0 h).bind fun q80 =>
              if q80.1 = 97 then (fX9_fits_b491 N q80.2)
              else ((fX9_isSome q80.1 q80.2).bind fun q82 =>
                if q82.1 = 0 then (some (0, q82.2))
                else (fX9_fits_b491 N q82.2)))
            else if a2 = 41 then ((rc 9 a0 h).bind fun _ =>
              (fX9_ints N a0 1 h).bind fun q85 =>
              rZ q85.1 q85.2)
            else ((rc 9 a0 h).bind fun _ =>
            (fX9_rows N a0 a2 a3 h).bind fun q86 =>
            rZ q86.1 q86.2))
          else (if 18 ≤ a2 then (fX9_fits_b60 N a0 1 a0 h)
            else (fX9_fits_b60 N a0 2 a0 h)))
        else ((rc 9 a0 h).bind fun _ =>
          (fX9_places a0 a1 a2 a3 h).bind fun q88 =>
          rZ q88.1 q88.2))))
abbrev rmX9_step : Room := { frames := 5, cells := 0, slots := 0, locals := 115 }
def fX9_step_b227 (N : Nat)  (h : zH) : Option (Int32 × zH) :=
  some (1, h)
def fX9_step_b199 (N : Nat) (l0 : Option Nat) (l1 : Int32) (l3 : Int32) (l5 : Int32) (h : zH) : Option (Int32 × zH) :=
  if l5 < 19 then (fX9_step_b227 N h)
  else (if 25 < l5 then (fX9_step_b227 N h)
    else ((gR 9 16 l0 h).bind fun v3 =>
      (aI 100 v3 l3 h).bind fun v4 =>
      (rc 9 l0 h).bind fun _ =>
      (fX9_come N l0 l1 v4 h).bind fun q5 =>
      if q5.1 = 0 then (some (0, q5.2))
      else (fX9_step_b227 N q5.2)))
def fX9_step_b181 (N : Nat) (l0 : Option Nat) (l1 : Int32) (l2 : Int32) (l3 : Int32) (l5 : Int32) (s0 : Int32) (h : zH) : Option (Int32 × zH) :=
  if s0 = 0 then ((rc 9 l0 h).bind fun _ =>
    (fX9_come N l0 l1 (l2 + 1) h).bind fun q2 =>
    if q2.1 = 0 then (some (0, q2.2))
    else (fX9_step_b199 N l0 l1 l3 l5 q2.2))
  else (fX9_step_b199 N l0 l1 l3 l5 h)
def fX9_step_b176 (N : Nat) (l0 : Option Nat) (l1 : Int32) (l2 : Int32) (l3 : Int32) (l5 : Int32) (h : zH) : Option (Int32 × zH) :=
  fX9_step_b181 N l0 l1 l2 l3 l5 1 h
def fX9_step_b104 (N : Nat) (k22 : Option Nat → Int32 → Int32 → Int32 → Int32 → zH → Option (Int32 × zH)) (l0 : Option Nat) (l1 : Int32) (l2 : Int32) (l3 : Int32) (l5 : Int32) (h : zH) : Option (Int32 × zH) :=
  k22 l0 l1 l2 l3 (l5 + 1) h
def fX9_step_b22 (N : Nat) : Nat → Option Nat → Int32 → Int32 → Int32 → Int32 → zH → Option (Int32 × zH)
  | 0, _, _, _, _, _, _ => none
  | n + 1, l0, l1, l2, l3, l5, h =>
  (gR 9 18 l0 h).bind fun v1 =>
  (aI 100 v1 l1 h).bind fun v2 =>
  if ((8 * l1) + v2) ≤ l5 then ((rc 9 l0 h).bind fun _ =>
    (fX9_takeUp N l0 l1 l2 h).bind fun h4 =>
    (gR 9 15 l0 h4).bind fun v5 =>
    (aI 100 v5 l3 h4).bind fun v6 =>
    (gR 9 16 l0 h4).bind fun v7 =>
    (aI 100 v7 l3 h4).bind fun v8 =>
    (gR 9 17 l0 h4).bind fun v9 =>
    (aI 100 v9 l3 h4).bind fun v10 =>
    (rc 9 l0 h4).bind fun _ =>
    (fX9_fits N l0 l1 v6 v8 v10 h4).bind fun q11 =>
    if q11.1 = 0 then (some (0, q11.2))
    else (if v6 = 25 then (fX9_step_b176 N l0 l1 l2 l3 v6 q11.2)
      else (if v6 = 37 then (fX9_step_b176 N l0 l1 l2 l3 v6 q11.2)
        else (if v6 = 38 then (fX9_step_b176 N l0 l1 l2 l3 v6 q11.2)
          else (if v6 = 39 then (fX9_step_b176 N l0 l1 l2 l3 v6 q11.2)
            else (fX9_step_b181 N l0 l1 l2 l3 v6 0 q11.2))))))
  else ((gR 9 19 l0 h).bind fun v17 =>
    (aI 100 v17 l5 h).bind fun v18 =>
    if l2 < v18 then (fX9_step_b104 N (fX9_step_b22 N n) l0 l1 l2 l3 l5 h)
    else ((gR 9 20 l0 h).bind fun v20 =>
      (aI 100 v20 l5 h).bind fun v21 =>
      if v21 ≤ l2 then (fX9_step_b104 N (fX9_step_b22 N n) l0 l1 l2 l3 l5 h)
      else ((rc 9 l0 h).bind fun _ =>
        (fX9_takeUp N l0 l1 l2 h).bind fun h23 =>
        (pI 9 29 l0 0 h23).bind fun h24 =>
        (gR 9 21 l0 h24).bind fun v25 =>
        (aI 100 v25 l5 h24).bind fun v26 =>
        (rc 9 l0 h24).bind fun _ =>
        (fX9_push l0 (1 + v26) h24).bind fun q27 =>
        if q27.1 = 0 then (some (0, q27.2))
        else ((gR 9 22 l0 q27.2).bind fun v29 =>
          (aI 100 v29 l5 q27.2).bind fun v30 =>
          (rc 9 l0 q27.2).bind fun _ =>
          (fX9_come N l0 l1 v30 q27.2).bind fun q31 =>
          if q31.1 = 0 then (some (0, q31.2))
          else (fX9_step_b104 N (fX9_step_b22 N n) l0 l1 l2 l3 l5 q31.2)))))
def fX9_step (N : Nat) (a0 : Option Nat) (a1 : Int32) (a2 : Int32) (h : zH) : Option (Int32 × zH) :=
  (gR 9 9 a0 h).bind fun v1 =>
  (aI 100 v1 a1 h).bind fun v2 =>
  fX9_step_b22 N N a0 a1 a2 ((200 * a1) + a2) (8 * a1) h
abbrev rmX9_verify : Room := { frames := 6, cells := 0, slots := 0, locals := 141 }
def fX9_verify_b132 (N : Nat) : Nat → Option Nat → Int32 → Int32 → zH → Option (Int32 × zH)
  | 0, _, _, _, _ => none
  | n + 1, l0, l1, l3, h =>
  (gR 9 14 l0 h).bind fun v1 =>
  (aI 100 v1 l1 h).bind fun v2 =>
  if v2 ≤ l3 then (some (0, h))
  else ((gR 9 26 l0 h).bind fun v4 =>
    (aI 101 v4 l3 h).bind fun v5 =>
    if v5 = 0 then (fX9_verify_b132 N n l0 l1 (l3 + 1) h)
    else ((gR 9 26 l0 h).bind fun v7 =>
      (sZ v7 l3 0 h).bind fun h8 =>
      (gI 9 27 l0 h8).bind fun v9 =>
      (pI 9 27 l0 (v9 + 1) h8).bind fun h10 =>
      (pI 9 31 l0 l3 h10).bind fun h11 =>
      (rc 9 l0 h11).bind fun _ =>
      (fX9_step N l0 l1 l3 h11).bind fun q12 =>
      if q12.1 = 0 then ((gI 9 31 l0 q12.2).bind fun v14 =>
        some ((1 + v14), q12.2))
      else (fX9_verify_b132 N n l0 l1 0 q12.2)))
def fX9_verify_b116 (N : Nat) (k75 : Option Nat → Int32 → Int32 → zH → Option (Int32 × zH)) (l0 : Option Nat) (l1 : Int32) (l2 : Int32) (s0 : Int32) (s1 : Int32) (s2 : Option Nat) (h : zH) : Option (Int32 × zH) :=
  (sI s2 s1 s0 h).bind fun h1 =>
  k75 l0 l1 (l2 + 1) h1
def fX9_verify_b75 (N : Nat) : Nat → Option Nat → Int32 → Int32 → zH → Option (Int32 × zH)
  | 0, _, _, _, _ => none
  | n + 1, l0, l1, l2, h =>
  (gR 9 9 l0 h).bind fun v1 =>
  (aI 100 v1 l1 h).bind fun v2 =>
  if v2 ≤ l2 then ((rc 9 l0 h).bind fun _ =>
    (fX9_come N l0 l1 0 h).bind fun q4 =>
    fX9_verify_b132 N N l0 l1 0 q4.2)
  else ((gR 9 28 l0 h).bind fun v5 =>
    (gR 9 11 l0 h).bind fun v6 =>
    (aI 100 v6 l1 h).bind fun v7 =>
    if v7 ≤ l2 then (fX9_verify_b116 N (fX9_verify_b75 N n) l0 l1 l2 99 l2 v5 h)
    else ((gR 9 12 l0 h).bind fun v9 =>
      (aI 100 v9 ((8 * l1) + l2) h).bind fun v10 =>
      fX9_verify_b116 N (fX9_verify_b75 N n) l0 l1 l2 v10 l2 v5 h))
def fX9_verify_b24 (N : Nat) : Nat → Option Nat → Int32 → Int32 → zH → Option (Int32 × zH)
  | 0, _, _, _, _ => none
  | n + 1, l0, l1, l2, h =>
  if 200 ≤ l2 then ((gR 9 14 l0 h).bind fun v2 =>
    (aI 100 v2 l1 h).bind fun v3 =>
    if v3 = 0 then (some (1, h))
    else ((pI 9 29 l0 0 h).bind fun h5 =>
      fX9_verify_b75 N N l0 l1 0 h5))
  else ((gR 9 24 l0 h).bind fun v6 =>
    (sI v6 ((200 * l1) + l2) (-1) h).bind fun h7 =>
    (gR 9 26 l0 h7).bind fun v8 =>
    (sZ v8 l2 0 h7).bind fun h9 =>
    fX9_verify_b24 N n l0 l1 (l2 + 1) h9)
def fX9_verify (N : Nat) (a0 : Option Nat) (a1 : Int32) (h : zH) : Option (Int32 × zH) :=
  (rc 9 a0 h).bind fun _ =>
  (fX9_isMethod a0 a1 h).bind fun q1 =>
  if q1.1 = 0 then (some ((-1), q1.2))
  else ((gR 9 23 a0 q1.2).bind fun v3 =>
    (sZ v3 a1 1 q1.2).bind fun h4 =>
    (pI 9 27 a0 0 h4).bind fun h5 =>
    fX9_verify_b24 N N a0 a1 0 h5)
abbrev rmX9_stands : Room := { frames := 1, cells := 0, slots := 0, locals := 21 }
def fX9_stands (a0 : Option Nat) (a1 : Int32) (a2 : Int32) (a3 : Int32) (a4 : Int32) (h : zH) : Option (Int32 × zH) :=
  (rc 9 a0 h).bind fun _ =>
  (fX9_isMethod a0 a1 h).bind fun q1 =>
  if q1.1 = 0 then (some ((-1), q1.2))
  else ((gR 9 23 a0 q1.2).bind fun v3 =>
    (aI 101 v3 a1 q1.2).bind fun v4 =>
    if v4 = 0 then (some ((-1), q1.2))
    else (if a2 < 0 then (some ((-1), q1.2))
      else ((gR 9 14 a0 q1.2).bind fun v7 =>
        (aI 100 v7 a1 q1.2).bind fun v8 =>
        if v8 ≤ a2 then (some ((-1), q1.2))
        else ((gR 9 24 a0 q1.2).bind fun v10 =>
          (aI 100 v10 ((200 * a1) + a2) q1.2).bind fun v11 =>
          if 0 ≤ v11 then (if a3 = 0 then ((gR 9 24 a0 q1.2).bind fun v30 =>
              (aI 100 v30 ((200 * a1) + a2) q1.2).bind fun v31 =>
              some (v31, q1.2))
            else (if a3 = 1 then (if a4 < 0 then (some ((-1), q1.2))
                else ((gR 9 9 a0 q1.2).bind fun v25 =>
                  (aI 100 v25 a1 q1.2).bind fun v26 =>
                  if v26 ≤ a4 then (some ((-1), q1.2))
                  else ((gR 9 25 a0 q1.2).bind fun v28 =>
                    (aI 100 v28 ((12 * ((200 * a1) + a2)) + a4) q1.2).bind fun v29 =>
                    some (v29, q1.2))))
              else (if a3 = 2 then (if a4 < 0 then (some ((-1), q1.2))
                  else ((gR 9 24 a0 q1.2).bind fun v17 =>
                    (aI 100 v17 ((200 * a1) + a2) q1.2).bind fun v18 =>
                    if v18 ≤ a4 then (some ((-1), q1.2))
                    else ((gR 9 25 a0 q1.2).bind fun v20 =>
                      (gR 9 9 a0 q1.2).bind fun v21 =>
                      (aI 100 v21 a1 q1.2).bind fun v22 =>
                      (aI 100 v20 (((12 * ((200 * a1) + a2)) + v22) + a4) q1.2).bind fun v23 =>
                      some (v23, q1.2))))
                else (some ((-1), q1.2)))))
          else (some ((-1), q1.2))))))
abbrev rmX9_looked : Room := { frames := 0, cells := 0, slots := 0, locals := 0 }
def fX9_looked (a0 : Option Nat) (h : zH) : Option (Int32 × zH) :=
  (gI 9 27 a0 h).bind fun v1 =>
  some (v1, h)
