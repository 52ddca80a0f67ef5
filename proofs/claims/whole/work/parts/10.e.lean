def f_X10_differsAt_14 (N : Nat) (x0 : Nat) (x1 : Nat) (x2 : Int32) (x3 : Int32)  (g : ZS) : Option ((Int32) ⊕ Int32) :=
  if x2 ≤ x3 then
    (
      some (-1 : Int32)).map Sum.inr
  else
    zvs g x0 10 <| (f_X10_at x0 x3 g).bind fun v1 =>
    zvs g x1 10 <| (f_X10_at x1 x3 g).bind fun v2 =>
    if v1 = v2 then
      some (.inl (x3 + (1 : Int32)))
    else
      (
        some x3).map Sum.inr

def f_X10_differsAt (N : Nat) (x0 : Nat) (x1 : Nat)  (g : ZS) : Option Int32 :=
  (zrdI g x0 10 3).bind fun v1 =>
  (zrdI g x1 10 3).bind fun v2 =>
  (f_J9_max_7cf53 v1 v2).bind fun v3 =>
  zloop (fun s => f_X10_differsAt_14 N x0 x1 v3 s g) N (0 : Int32)

def f_X11_wordsOf_32 (N : Nat) (x0 : Nat) (x1 : Int32) (x2 : Int32) (x3 : Int32)  (g : ZS) : Option ((Int32 × Int32) ⊕ Int32) :=
  some (.inl (x2, x3 + (1 : Int32)))

def f_X11_wordsOf_4 (N : Nat) (x0 : Nat) (x1 : Int32) (x2 : Int32) (x3 : Int32)  (g : ZS) : Option ((Int32 × Int32) ⊕ Int32) :=
  (zrdR g x0 11 6).bind fun v1 =>
  (zrdI g v1 6 1).bind fun v2 =>
  if v2 ≤ x3 then
    (
      some x2).map Sum.inr
  else
    if ((x1 >>> (x3 &&& 31)) &&& (1 : Int32)) = 0 then
      f_X11_wordsOf_32 N x0 x1 x2 x3 g
    else
      (zrdR g x0 11 16).bind fun v3 =>
      (zald 20 g v3 x3).bind fun v4 =>
      f_X11_wordsOf_32 N x0 x1 (x2 ||| v4) x3 g

def f_X11_wordsOf (N : Nat) (x0 : Nat) (x1 : Int32)  (g : ZS) : Option Int32 :=
  zloop (fun s => f_X11_wordsOf_4 N x0 x1 s.1 s.2 g) N ((0 : Int32), (0 : Int32))

def f_X11_hear_22 (N : Nat)   (g : ZS) : Option (Int32 × ZS) :=
  some ((-1 : Int32), g)

def f_X11_hear_86 (N : Nat) (x0 : Nat) (x1 : Int32) (x3 : Int32) (x4 : Int32) (x5 : Int32)  (g : ZS) : Option ((Int32 × Int32 × Int32) ⊕ (Int32 × ZS)) :=
  some (.inl (x3, x4, x5 + (1 : Int32)))

def f_X11_hear_38 (N : Nat) (x0 : Nat) (x1 : Int32) (x3 : Int32) (x4 : Int32) (x5 : Int32)  (g : ZS) : Option ((Int32 × Int32 × Int32) ⊕ (Int32 × ZS)) :=
  (zrdR g x0 11 6).bind fun v1 =>
  (zrdI g v1 6 1).bind fun v2 =>
  if ((1 : Int32) <<< (v2 &&& 31)) ≤ x5 then
    (
      if x3 = (-1 : Int32) then
        some ((-2 : Int32), g)
      else
        (zrdR g x0 11 1).bind fun v3 =>
        zvs g v3 9 <| (f_X9_only v3 x3.toInt64 g).bind fun g4 =>
        some (x4, g4)).map Sum.inr
  else
    (f_J6_bitCount_0f7a4 x5).bind fun v5 =>
    if x4 ≤ v5 then
      f_X11_hear_86 N x0 x1 x3 x4 x5 g
    else
      zvs g x0 11 <| (f_X11_wordsOf N x0 x5 g).bind fun v6 =>
      if (x1 &&& (v6 ^^^ (-1 : Int32))) = 0 then
        f_X11_hear_86 N x0 x1 x5 v5 x5 g
      else
        f_X11_hear_86 N x0 x1 x3 x4 x5 g

def f_X11_hear (N : Nat) (x0 : Nat) (x1 : Int32) (x2 : Int32)  (g : ZS) : Option (Int32 × ZS) :=
  if x1 < 0 then
    f_X11_hear_22 N g
  else
    if (255 : Int32) < x1 then
      f_X11_hear_22 N g
    else
      if x2 < (1 : Int32) then
        f_X11_hear_22 N g
      else
        if x2 ≤ (8 : Int32) then
          zvs g x0 11 <| (f_X11_gatherSets N x0 x2 g).bind fun g1 =>
          zloop (fun s => f_X11_hear_38 N x0 x1 s.1 s.2.1 s.2.2 g1) N ((-1 : Int32), (7 : Int32), (0 : Int32))
        else
          f_X11_hear_22 N g

def f_X12_has_14  (s0 : Int32) : Option Int32 :=
  if vp_nar .boolean s0 = s0 then some s0 else none

def f_X12_has (x0 : Int32) (x1 : Int32)  : Option Int32 :=
  if ((x0 >>> (x1 &&& 31)) &&& (1 : Int32)) = (1 : Int32) then
    f_X12_has_14 (1 : Int32)
  else
    f_X12_has_14 (0 : Int32)

def f_X11_worthOfFirst_43 (N : Nat) (x2 : Int32)  (g : ZS) : Option Int32 :=
  some x2

def f_X11_worthOfFirst_4 (N : Nat) (x0 : Nat) (x1 : Int32) (x2 : Int32) (x3 : Int32)  (g : ZS) : Option ((Int32 × Int32) ⊕ Int32) :=
  if x1 ≤ x3 then
    (
    f_X11_worthOfFirst_43 N x2 g).map Sum.inr
  else
    (zrdR g x0 11 12).bind fun v1 =>
    (zrdI g v1 10 3).bind fun v2 =>
    if v2 ≤ x3 then
      (
      f_X11_worthOfFirst_43 N x2 g).map Sum.inr
    else
      (zrdR g x0 11 3).bind fun v3 =>
      (zrdR g x0 11 12).bind fun v4 =>
      (zrdR g v4 10 0).bind fun v5 =>
      (zald 20 g v5 x3).bind fun v6 =>
      (zald 20 g v3 v6).bind fun v7 =>
      some (.inl (x2 + v7, x3 + (1 : Int32)))

def f_X11_worthOfFirst (N : Nat) (x0 : Nat) (x1 : Int32)  (g : ZS) : Option Int32 :=
  zloop (fun s => f_X11_worthOfFirst_4 N x0 x1 s.1 s.2 g) N ((0 : Int32), (0 : Int32))

def f_X11_gain_18 (N : Nat)   (g : ZS) : Option (Int32 × ZS) :=
  some ((-1 : Int32), g)

def f_X11_gain_99 (N : Nat) (x0 : Nat) (x1 : Int32) (x2 : Int32) (x3 : Int32) (x4 : Int32) (x5 : Int32) (x6 : Int32)  (g : ZS) : Option ((Int32 × Int32 × Int32 × Int32 × ZS) ⊕ (Int32 × ZS)) :=
  some (.inl (x3, x4, x5, x6 + (1 : Int32), g))

def f_X11_gain_84 (N : Nat) (x0 : Nat) (x1 : Int32) (x2 : Int32) (x3 : Int32) (x4 : Int32) (x5 : Int32) (x6 : Int32) (x7 : Int32)  (g : ZS) : Option ((Int32 × Int32 × Int32 × Int32 × ZS) ⊕ (Int32 × ZS)) :=
  if x7 ≤ x5 then
    f_X11_gain_99 N x0 x1 x2 x3 x4 x5 x6 g
  else
    f_X11_gain_99 N x0 x1 x2 x3 x6 x7 x6 g

def f_X11_gain_31 (N : Nat) (x0 : Nat) (x1 : Int32) (x2 : Int32) (x3 : Int32) (x4 : Int32) (x5 : Int32) (x6 : Int32)  (g : ZS) : Option ((Int32 × Int32 × Int32 × Int32 × ZS) ⊕ (Int32 × ZS)) :=
  (zrdR g x0 11 6).bind fun v1 =>
  (zrdI g v1 6 1).bind fun v2 =>
  if v2 ≤ x6 then
    (
      (zrdR g x0 11 1).bind fun v3 =>
      zvs g v3 9 <| (f_X9_pair v3 x4.toInt64 x5.toInt64 g).bind fun g4 =>
      some (x3, g4)).map Sum.inr
  else
    (zrdR g x0 11 12).bind fun v5 =>
    (zrdR g x0 11 6).bind fun v6 =>
    (zrdR g v6 6 0).bind fun v7 =>
    (zaald 25 g v7 x6).bind fun v8 =>
    (zrdR g x0 11 4).bind fun v9 =>
    (zrdR g x0 11 3).bind fun v10 =>
    zvs g v5 10 <| (f_X10_follow N v5 v8 v9 v10 g).bind fun g11 =>
    zvs g11 x0 11 <| (f_X11_worthOfFirst N x0 x2 g11).bind fun v12 =>
    if x6 = x1 then
      f_X11_gain_84 N x0 x1 x2 v12 x4 x5 x6 v12 g11
    else
      f_X11_gain_84 N x0 x1 x2 x3 x4 x5 x6 v12 g11

def f_X11_gain (N : Nat) (x0 : Nat) (x1 : Int32) (x2 : Int32)  (g : ZS) : Option (Int32 × ZS) :=
  zvs g x0 11 <| (f_X11_isParrot x0 x1 g).bind fun v1 =>
  if v1 = 0 then
    f_X11_gain_18 N g
  else
    if x2 < 0 then
      f_X11_gain_18 N g
    else
      if x2 ≤ (8 : Int32) then
        zloop (fun s => f_X11_gain_31 N x0 x1 x2 s.1 s.2.1 s.2.2.1 s.2.2.2.1 s.2.2.2.2) N ((0 : Int32), (-1 : Int32), (-1 : Int32), (0 : Int32), g)
      else
        f_X11_gain_18 N g

def f_X2_isSaidAt_27  (s0 : Int32) (g : ZS) : Option Int32 :=
  if vp_nar .boolean s0 = s0 then some s0 else none

def f_X2_isSaidAt_26   (g : ZS) : Option Int32 :=
  f_X2_isSaidAt_27 (0 : Int32) g

def f_X2_isSaidAt (x0 : Nat) (x1 : Int32) (x2 : Int32) (x3 : Int32)  (g : ZS) : Option Int32 :=
  (zrdR g x0 2 1).bind fun v1 =>
  (zald 20 g v1 x1).bind fun v2 =>
  if v2 ≤ x2 then
    f_X2_isSaidAt_26 g
  else
    (zrdR g x0 2 0).bind fun v3 =>
    (zaald 27 g v3 x1).bind fun v4 =>
    (zald 20 g v4 x2).bind fun v5 =>
    if v5 = x3 then
      f_X2_isSaidAt_27 (1 : Int32) g
    else
      f_X2_isSaidAt_26 g

def f_X11_lowestOf_2 (N : Nat) (x0 : Int32) (x1 : Int32)  : Option ((Int32) ⊕ Int32) :=
  if (32 : Int32) ≤ x1 then
    (
      some (-1 : Int32)).map Sum.inr
  else
    if ((x0 >>> (x1 &&& 31)) &&& (1 : Int32)) = 0 then
      some (.inl (x1 + (1 : Int32)))
    else
      (
        some x1).map Sum.inr

def f_X11_lowestOf (N : Nat) (x0 : Int32)  : Option Int32 :=
  zloop (fun s => f_X11_lowestOf_2 N x0 s) N (0 : Int32)

def f_X2_fewestOfFirst_99 (N : Nat) (x0 : Nat) (x1 : Int32) (x2 : Int32) (x3 : Nat) (x4 : Int32) (x5 : Int32) (x6 : Int32) (x7 : Int32) (x8 : Int32)  (g : ZS) : Option ((Int32 × Int32) ⊕ ((Int32 × Int32) ⊕ Int32)) :=
  some (.inl (x7, x8 + (1 : Int32)))

def f_X2_fewestOfFirst_96 (N : Nat) (x0 : Nat) (x1 : Int32) (x2 : Int32) (x3 : Nat) (x4 : Int32) (x5 : Int32) (x6 : Int32) (x8 : Int32) (s0 : Int32) (s1 : Int32) (g : ZS) : Option ((Int32 × Int32) ⊕ ((Int32 × Int32) ⊕ Int32)) :=
  f_X2_fewestOfFirst_99 N x0 x1 x2 x3 x4 x5 x6 (s0 ||| s1) x8 g

def f_X2_fewestOfFirst_68 (N : Nat) (x0 : Nat) (x1 : Int32) (x2 : Int32) (x3 : Nat) (x4 : Int32) (x5 : Int32) (x6 : Int32) (x8 : Int32) (s0 : Int32) (s1 : Int32) (g : ZS) : Option ((Int32 × Int32) ⊕ ((Int32 × Int32) ⊕ Int32)) :=
  zvs g x0 2 <| (f_X2_isSaidAt x0 x2 (x5 - x8) x6 g).bind fun v1 =>
  if v1 = 0 then
    f_X2_fewestOfFirst_96 N x0 x1 x2 x3 x4 x5 x6 x8 (s0 ||| s1) (0 : Int32) g
  else
    f_X2_fewestOfFirst_96 N x0 x1 x2 x3 x4 x5 x6 x8 (s0 ||| s1) ((1 : Int32) <<< (x8 &&& 31)) g

def f_X2_fewestOfFirst_29 (N : Nat) (x0 : Nat) (x1 : Int32) (x2 : Int32) (x3 : Nat) (x4 : Int32) (x5 : Int32) (x6 : Int32) (x7 : Int32) (x8 : Int32)  (g : ZS) : Option ((Int32 × Int32) ⊕ ((Int32 × Int32) ⊕ Int32)) :=
  if x5 < x8 then
    (
      some (.inl (x7, x5 + (1 : Int32)))).map Sum.inr
  else
    if ((x4 >>> (x8 &&& 31)) &&& (1 : Int32)) = 0 then
      f_X2_fewestOfFirst_99 N x0 x1 x2 x3 x4 x5 x6 x7 x8 g
    else
      zvs g x0 2 <| (f_X2_isSaidAt x0 x1 x8 x6 g).bind fun v1 =>
      if v1 = 0 then
        f_X2_fewestOfFirst_68 N x0 x1 x2 x3 x4 x5 x6 x8 x7 (0 : Int32) g
      else
        f_X2_fewestOfFirst_68 N x0 x1 x2 x3 x4 x5 x6 x8 x7 ((2 : Int32) <<< (x8 &&& 31)) g

def f_X2_fewestOfFirst_6 (N : Nat) (x0 : Nat) (x1 : Int32) (x2 : Int32) (x3 : Nat) (x4 : Int32) (x5 : Int32)  (g : ZS) : Option ((Int32 × Int32) ⊕ Int32) :=
  (zrdI g x3 8 1).bind fun v1 =>
  if v1 ≤ x5 then
    (
      (f_X11_lowestOf N x4).bind fun v2 =>
      some v2).map Sum.inr
  else
    zvs g x3 8 <| (f_X8_wordAt x3 x5 g).bind fun v3 =>
    zloop (fun s => f_X2_fewestOfFirst_29 N x0 x1 x2 x3 x4 x5 v3 s.1 s.2 g) N ((0 : Int32), (0 : Int32))

def f_X2_fewestOfFirst (N : Nat) (x0 : Nat) (x1 : Int32) (x2 : Int32) (x3 : Nat)  (g : ZS) : Option Int32 :=
  zloop (fun s => f_X2_fewestOfFirst_6 N x0 x1 x2 x3 s.1 s.2 g) N ((1 : Int32), (0 : Int32))

def f_X11_readBlend (N : Nat) (x0 : Nat) (x1 : Int32) (x2 : Int32)  (g : ZS) : Option (Int32 × ZS) :=
  (zrdR g x0 11 0).bind fun v1 =>
  zvs g v1 8 <| (f_X8_badInTale N v1 g).bind fun v2 =>
  if v2 = (-1 : Int32) then
    (zrdR g x0 11 2).bind fun v3 =>
    (zrdR g x0 11 0).bind fun v4 =>
    zvs g v3 2 <| (f_X2_fewestOfFirst N v3 x1 x2 v4 g).bind fun v5 =>
    if v5 = (-1 : Int32) then
      some ((0 : Int32), g)
    else
      (zrdR g x0 11 1).bind fun v6 =>
      zvs g v6 9 <| (f_X9_only v6 v5.toInt64 g).bind fun g7 =>
      some ((1 : Int32), g7)
  else
    some ((-1 : Int32) - v2, g)

def f_X11_blend_30 (N : Nat) (x0 : Nat) (s0 : Int32) (g : ZS) : Option (Int32 × ZS) :=
  (zrdR g x0 11 0).bind fun v1 =>
  (zwrI g v1 8 1 (0 : Int32)).bind fun g2 =>
  some (s0, g2)

def f_X11_blend_28 (N : Nat) (x0 : Nat)  (g : ZS) : Option (Int32 × ZS) :=
  f_X11_blend_30 N x0 (-100 : Int32) g

def f_X11_blend (N : Nat) (x0 : Nat) (x1 : Int32) (x2 : Int32)  (g : ZS) : Option (Int32 × ZS) :=
  (f_X11_isHouse x1).bind fun v1 =>
  if v1 = 0 then
    f_X11_blend_28 N x0 g
  else
    (f_X11_isHouse x2).bind fun v2 =>
    if v2 = 0 then
      f_X11_blend_28 N x0 g
    else
      if x1 = x2 then
        f_X11_blend_28 N x0 g
      else
        zvs g x0 11 <| (f_X11_readBlend N x0 x1 x2 g).bind fun r3 =>
        f_X11_blend_30 N x0 r3.1 r3.2

def f_X12_blendOf_160 (N : Nat) (x0 : Nat) (x1 : Int32) (x2 : Int32) (x3 : Int32) (x4 : Int32) (x5 : Int32)  (g : ZS) : Option ((Int32 × ZS) ⊕ ((Int32 × ZS) ⊕ (Int32 × ZS))) :=
  some (.inl (x5 + (1 : Int32), g))

def f_X12_blendOf_105 (N : Nat) (x0 : Nat) (x1 : Int32) (x2 : Int32) (x3 : Int32) (x4 : Int32) (x5 : Int32)  (g : ZS) : Option ((Int32 × ZS) ⊕ ((Int32 × ZS) ⊕ (Int32 × ZS))) :=
  (zrdR g x0 12 5).bind fun v1 =>
  (zald 20 g v1 x2).bind fun v2 =>
  if v2 ≤ (x4 - x5) then
    f_X12_blendOf_160 N x0 x1 x2 x3 x4 x5 g
  else
    (zrdR g x0 12 4).bind fun v3 =>
    (zald 20 g v3 ((((16 : Int32) * x2) + x4) - x5)).bind fun v4 =>
    (zrdR g x0 12 16).bind fun v5 =>
    (zald 20 g v5 x4).bind fun v6 =>
    if v4 = v6 then
      (zrdR g x0 12 31).bind fun v7 =>
      (zald 20 g v7 (x4 + (1 : Int32))).bind fun v8 =>
      (zast 20 g v7 (x4 + (1 : Int32)) (v8 ||| ((1 : Int32) <<< (x5 &&& 31)))).bind fun g9 =>
      f_X12_blendOf_160 N x0 x1 x2 x3 x4 x5 g9
    else
      f_X12_blendOf_160 N x0 x1 x2 x3 x4 x5 g

def f_X12_blendOf_29 (N : Nat) (x0 : Nat) (x1 : Int32) (x2 : Int32) (x3 : Int32) (x4 : Int32) (x5 : Int32)  (g : ZS) : Option ((Int32 × ZS) ⊕ ((Int32 × ZS) ⊕ (Int32 × ZS))) :=
  if x4 < x5 then
    (
      some (.inl (x4 + (1 : Int32), g))).map Sum.inr
  else
    (zrdR g x0 12 31).bind fun v1 =>
    (zald 20 g v1 x4).bind fun v2 =>
    (f_X12_has v2 x5).bind fun v3 =>
    if v3 = 0 then
      f_X12_blendOf_160 N x0 x1 x2 x3 x4 x5 g
    else
      (zrdR g x0 12 5).bind fun v4 =>
      (zald 20 g v4 x1).bind fun v5 =>
      if v5 ≤ x5 then
        f_X12_blendOf_105 N x0 x1 x2 x3 x4 x5 g
      else
        (zrdR g x0 12 4).bind fun v6 =>
        (zald 20 g v6 (((16 : Int32) * x1) + x5)).bind fun v7 =>
        (zrdR g x0 12 16).bind fun v8 =>
        (zald 20 g v8 x4).bind fun v9 =>
        if v7 = v9 then
          (zrdR g x0 12 31).bind fun v10 =>
          (zald 20 g v10 (x4 + (1 : Int32))).bind fun v11 =>
          (zast 20 g v10 (x4 + (1 : Int32)) (v11 ||| ((1 : Int32) <<< ((x5 + (1 : Int32)) &&& 31)))).bind fun g12 =>
          f_X12_blendOf_105 N x0 x1 x2 x3 x4 x5 g12
        else
          f_X12_blendOf_105 N x0 x1 x2 x3 x4 x5 g

def f_X12_blendOf_194 (N : Nat)  (s0 : Int32) (g : ZS) : Option (Int32 × ZS) :=
  some (s0, g)

def f_X12_blendOf_10 (N : Nat) (x0 : Nat) (x1 : Int32) (x2 : Int32) (x3 : Int32) (x4 : Int32)  (g : ZS) : Option ((Int32 × ZS) ⊕ (Int32 × ZS)) :=
  if x3 ≤ x4 then
    (
      (zrdR g x0 12 31).bind fun v1 =>
      (zald 20 g v1 x3).bind fun v2 =>
      if v2 = 0 then
        f_X12_blendOf_194 N (-1 : Int32) g
      else
        (zrdR g x0 12 31).bind fun v3 =>
        (zald 20 g v3 x3).bind fun v4 =>
        (f_J6_numberOfTrailingZeros_0f7a4 v4).bind fun v5 =>
        f_X12_blendOf_194 N v5 g).map Sum.inr
  else
    (zrdR g x0 12 31).bind fun v6 =>
    (zast 20 g v6 (x4 + (1 : Int32)) (0 : Int32)).bind fun g7 =>
    zloop (fun s => f_X12_blendOf_29 N x0 x1 x2 x3 x4 s.1 s.2) N ((0 : Int32), g7)

def f_X12_blendOf (N : Nat) (x0 : Nat) (x1 : Int32) (x2 : Int32) (x3 : Int32)  (g : ZS) : Option (Int32 × ZS) :=
  (zrdR g x0 12 31).bind fun v1 =>
  (zast 20 g v1 (0 : Int32) (1 : Int32)).bind fun g2 =>
  zloop (fun s => f_X12_blendOf_10 N x0 x1 x2 x3 s.1 s.2) N ((0 : Int32), g2)

def f_X12_blend_24 (N : Nat) (x0 : Nat)  (g : ZS) : Option (Int32 × ZS) :=
  (zwrI g x0 12 7 (0 : Int32)).bind fun g1 =>
  some ((-100 : Int32), g1)

def f_X12_blend (N : Nat) (x0 : Nat) (x1 : Int32) (x2 : Int32)  (g : ZS) : Option (Int32 × ZS) :=
  (zwrI g x0 12 10 (0 : Int32)).bind fun g1 =>
  (f_X12_isHouse x1).bind fun v2 =>
  if v2 = 0 then
    f_X12_blend_24 N x0 g1
  else
    (f_X12_isHouse x2).bind fun v3 =>
    if v3 = 0 then
      f_X12_blend_24 N x0 g1
    else
      if x1 = x2 then
        f_X12_blend_24 N x0 g1
      else
        zvs g1 x0 12 <| (f_X12_readWords N x0 (0 : Int32) g1).bind fun r4 =>
        if 0 ≤ r4.1 then
          zvs r4.2 x0 12 <| (f_X12_blendOf N x0 x1 x2 r4.1 r4.2).bind fun r5 =>
          if r5.1 = (-1 : Int32) then
            some ((0 : Int32), r5.2)
          else
            (zwrI r5.2 x0 12 9 (0 : Int32)).bind fun g6 =>
            zvs g6 x0 12 <| (f_X12_tell x0 r5.1.toInt64 g6).bind fun g7 =>
            some ((1 : Int32), g7)
        else
          some (r4.1, r4.2)

def f_X11_findSource_61 (N : Nat) (x0 : Nat) (x1 : Int32) (x2 : Int32) (x3 : Int32) (x4 : Int32)  (g : ZS) : Option ((Int32 × Int32 × Int32) ⊕ ((Int32 × Int32 × Int32) ⊕ (Int32 × ZS))) :=
  some (.inl (x1, x2, x4 + (1 : Int32)))

def f_X11_findSource_57 (N : Nat) (x0 : Nat) (x2 : Int32) (x3 : Int32) (x4 : Int32) (s0 : Int32) (g : ZS) : Option ((Int32 × Int32 × Int32) ⊕ ((Int32 × Int32 × Int32) ⊕ (Int32 × ZS))) :=
  f_X11_findSource_61 N x0 s0 (x2 + (1 : Int32)) x3 x4 g

def f_X11_findSource_18 (N : Nat) (x0 : Nat) (x1 : Int32) (x2 : Int32) (x3 : Int32) (x4 : Int32)  (g : ZS) : Option ((Int32 × Int32 × Int32) ⊕ ((Int32 × Int32 × Int32) ⊕ (Int32 × ZS))) :=
  if (4 : Int32) ≤ x4 then
    (
      some (.inl (x1, x2, x3 + (1 : Int32)))).map Sum.inr
  else
    (zrdR g x0 11 2).bind fun v1 =>
    (zrdR g x0 11 0).bind fun v2 =>
    zvs g v1 2 <| (f_X2_fewestOfFirst N v1 x3 x4 v2 g).bind fun v3 =>
    if v3 = (-1 : Int32) then
      f_X11_findSource_61 N x0 x1 x2 x3 x4 g
    else
      if x2 = 0 then
        f_X11_findSource_57 N x0 x2 x3 x4 (((10 : Int32) * x3) + x4) g
      else
        f_X11_findSource_57 N x0 x2 x3 x4 x1 g

def f_X11_findSource_86 (N : Nat) (x1 : Int32)  (g : ZS) : Option (Int32 × ZS) :=
  some (x1, g)

def f_X11_findSource_8 (N : Nat) (x0 : Nat) (x1 : Int32) (x2 : Int32) (x3 : Int32)  (g : ZS) : Option ((Int32 × Int32 × Int32) ⊕ (Int32 × ZS)) :=
  if (4 : Int32) ≤ x3 then
    (
      if x2 ≤ 0 then
        f_X11_findSource_86 N x1 g
      else
        (zrdR g x0 11 1).bind fun v1 =>
        zvs g v1 9 <| (f_X9_only v1 x2.toInt64 g).bind fun g2 =>
        f_X11_findSource_86 N x1 g2).map Sum.inr
  else
    zloop (fun s => f_X11_findSource_18 N x0 s.1 s.2.1 x3 s.2.2 g) N (x1, x2, x3 + (1 : Int32))

def f_X11_findSource (N : Nat) (x0 : Nat)  (g : ZS) : Option (Int32 × ZS) :=
  zloop (fun s => f_X11_findSource_8 N x0 s.1 s.2.1 s.2.2 g) N ((-200 : Int32), (0 : Int32), (0 : Int32))

def f_X11_source_23 (N : Nat) (x0 : Nat) (s0 : Int32) (g : ZS) : Option (Int32 × ZS) :=
  (zrdR g x0 11 0).bind fun v1 =>
  (zwrI g v1 8 1 (0 : Int32)).bind fun g2 =>
  some (s0, g2)

def f_X11_source (N : Nat) (x0 : Nat)  (g : ZS) : Option (Int32 × ZS) :=
  (zrdR g x0 11 0).bind fun v1 =>
  zvs g v1 8 <| (f_X8_badInTale N v1 g).bind fun v2 =>
  if v2 = (-1 : Int32) then
    zvs g x0 11 <| (f_X11_findSource N x0 g).bind fun r3 =>
    f_X11_source_23 N x0 r3.1 r3.2
  else
    f_X11_source_23 N x0 ((-1 : Int32) - v2) g

def f_X12_source_78 (N : Nat) (x0 : Nat) (x1 : Int32) (x2 : Int32) (x3 : Int32) (x4 : Int32) (x5 : Int32)  (g : ZS) : Option ((Int32 × Int32 × Int32 × ZS) ⊕ ((Int32 × Int32 × Int32 × ZS) ⊕ (Int32 × ZS))) :=
  some (.inl (x2, x3, x5 + (1 : Int32), g))

def f_X12_source_74 (N : Nat) (x0 : Nat) (x1 : Int32) (x3 : Int32) (x4 : Int32) (x5 : Int32) (s0 : Int32) (g : ZS) : Option ((Int32 × Int32 × Int32 × ZS) ⊕ ((Int32 × Int32 × Int32 × ZS) ⊕ (Int32 × ZS))) :=
  f_X12_source_78 N x0 x1 s0 (x3 + (1 : Int32)) x4 x5 g

def f_X12_source_36 (N : Nat) (x0 : Nat) (x1 : Int32) (x2 : Int32) (x3 : Int32) (x4 : Int32) (x5 : Int32)  (g : ZS) : Option ((Int32 × Int32 × Int32 × ZS) ⊕ ((Int32 × Int32 × Int32 × ZS) ⊕ (Int32 × ZS))) :=
  if (4 : Int32) ≤ x5 then
    (
      some (.inl (x2, x3, x4 + (1 : Int32), g))).map Sum.inr
  else
    zvs g x0 12 <| (f_X12_blendOf N x0 x4 x5 x1 g).bind fun r1 =>
    if r1.1 = (-1 : Int32) then
      f_X12_source_78 N x0 x1 x2 x3 x4 x5 r1.2
    else
      if x3 = 0 then
        f_X12_source_74 N x0 x1 x3 x4 x5 (((10 : Int32) * x4) + x5) r1.2
      else
        f_X12_source_74 N x0 x1 x3 x4 x5 x2 r1.2

def f_X12_source_24 (N : Nat) (x0 : Nat) (x1 : Int32) (x2 : Int32) (x3 : Int32) (x4 : Int32)  (g : ZS) : Option ((Int32 × Int32 × Int32 × ZS) ⊕ (Int32 × ZS)) :=
  if (4 : Int32) ≤ x4 then
    (
      if x3 = 0 then
        some ((-200 : Int32), g)
      else
        (zwrI g x0 12 9 (0 : Int32)).bind fun g1 =>
        zvs g1 x0 12 <| (f_X12_tell x0 x3.toInt64 g1).bind fun g2 =>
        some (x2, g2)).map Sum.inr
  else
    zloop (fun s => f_X12_source_36 N x0 x1 s.1 s.2.1 x4 s.2.2.1 s.2.2.2) N (x2, x3, x4 + (1 : Int32), g)

def f_X12_source (N : Nat) (x0 : Nat)  (g : ZS) : Option (Int32 × ZS) :=
  (zwrI g x0 12 10 (0 : Int32)).bind fun g1 =>
  zvs g1 x0 12 <| (f_X12_readWords N x0 (0 : Int32) g1).bind fun r2 =>
  if 0 ≤ r2.1 then
    zloop (fun s => f_X12_source_24 N x0 r2.1 s.1 s.2.1 s.2.2.1 s.2.2.2) N ((-1 : Int32), (0 : Int32), (0 : Int32), r2.2)
  else
    some (r2.1, r2.2)

def f_X11_isPair_26  (s0 : Int32) (g : ZS) : Option Int32 :=
  if vp_nar .boolean s0 = s0 then some s0 else none

def f_X11_isPair_25   (g : ZS) : Option Int32 :=
  f_X11_isPair_26 (0 : Int32) g

def f_X11_isPair (x0 : Nat) (x1 : Int32) (x2 : Int32)  (g : ZS) : Option Int32 :=
  zvs g x0 11 <| (f_X11_isParrot x0 x1 g).bind fun v1 =>
  if v1 = 0 then
    f_X11_isPair_25 g
  else
    zvs g x0 11 <| (f_X11_isParrot x0 x2 g).bind fun v2 =>
    if v2 = 0 then
      f_X11_isPair_25 g
    else
      if x1 = x2 then
        f_X11_isPair_25 g
      else
        f_X11_isPair_26 (1 : Int32) g

def f_X11_followBoth (N : Nat) (x0 : Nat) (x1 : Int32) (x2 : Int32)  (g : ZS) : Option ZS :=
  (zrdR g x0 11 12).bind fun v1 =>
  (zrdR g x0 11 6).bind fun v2 =>
  (zrdR g v2 6 0).bind fun v3 =>
  (zaald 25 g v3 x1).bind fun v4 =>
  (zrdR g x0 11 4).bind fun v5 =>
  (zrdR g x0 11 3).bind fun v6 =>
  zvs g v1 10 <| (f_X10_follow N v1 v4 v5 v6 g).bind fun g7 =>
  (zrdR g7 x0 11 13).bind fun v8 =>
  (zrdR g7 x0 11 6).bind fun v9 =>
  (zrdR g7 v9 6 0).bind fun v10 =>
  (zaald 25 g7 v10 x2).bind fun v11 =>
  (zrdR g7 x0 11 4).bind fun v12 =>
  (zrdR g7 x0 11 3).bind fun v13 =>
  zvs g7 v8 10 <| (f_X10_follow N v8 v11 v12 v13 g7).bind fun g14 =>
  some g14

def f_X10_compare_117 (N : Nat) (x0 : Nat) (x1 : Nat) (x2 : Int32) (x3 : Int32)  (g : ZS) : Option ((Int32 × ZS) ⊕ ((Int32 × ZS) ⊕ ZS)) :=
  some (.inl (x3 + (-1 : Int32), g))

def f_X10_compare_34 (N : Nat) (x0 : Nat) (x1 : Nat) (x2 : Int32) (x3 : Int32)  (g : ZS) : Option ((Int32 × ZS) ⊕ ((Int32 × ZS) ⊕ ZS)) :=
  (zrdR g x0 10 2).bind fun v1 =>
  (zaald 27 g v1 x2).bind fun v2 =>
  (zast 20 g v2 x3 (0 : Int32)).bind fun g3 =>
  f_X10_compare_117 N x0 x1 x2 x3 g3

def f_X10_compare_14 (N : Nat) (x0 : Nat) (x1 : Nat) (x2 : Int32) (x3 : Int32)  (g : ZS) : Option ((Int32 × ZS) ⊕ ((Int32 × ZS) ⊕ ZS)) :=
  if x3 < 0 then
    (
      some (.inl (x2 + (-1 : Int32), g))).map Sum.inr
  else
    (zrdI g x0 10 3).bind fun v1 =>
    if x2 = v1 then
      f_X10_compare_34 N x0 x1 x2 x3 g
    else
      (zrdI g x1 10 3).bind fun v2 =>
      if x3 = v2 then
        f_X10_compare_34 N x0 x1 x2 x3 g
      else
        (zrdR g x0 10 0).bind fun v3 =>
        (zald 20 g v3 x2).bind fun v4 =>
        (zrdR g x1 10 0).bind fun v5 =>
        (zald 20 g v5 x3).bind fun v6 =>
        if v4 = v6 then
          (zrdR g x0 10 2).bind fun v17 =>
          (zaald 27 g v17 x2).bind fun v18 =>
          (zrdR g x0 10 2).bind fun v19 =>
          (zaald 27 g v19 (x2 + (1 : Int32))).bind fun v20 =>
          (zald 20 g v20 (x3 + (1 : Int32))).bind fun v21 =>
          (zast 20 g v18 x3 ((1 : Int32) + v21)).bind fun g22 =>
          f_X10_compare_117 N x0 x1 x2 x3 g22
        else
          (zrdR g x0 10 2).bind fun v7 =>
          (zaald 27 g v7 x2).bind fun v8 =>
          (zrdR g x0 10 2).bind fun v9 =>
          (zaald 27 g v9 (x2 + (1 : Int32))).bind fun v10 =>
          (zald 20 g v10 x3).bind fun v11 =>
          (zrdR g x0 10 2).bind fun v12 =>
          (zaald 27 g v12 x2).bind fun v13 =>
          (zald 20 g v13 (x3 + (1 : Int32))).bind fun v14 =>
          (f_J9_max_7cf53 v11 v14).bind fun v15 =>
          (zast 20 g v8 x3 v15).bind fun g16 =>
          f_X10_compare_117 N x0 x1 x2 x3 g16

def f_X10_compare_5 (N : Nat) (x0 : Nat) (x1 : Nat) (x2 : Int32)  (g : ZS) : Option ((Int32 × ZS) ⊕ ZS) :=
  if x2 < 0 then
    (
      some g).map Sum.inr
  else
    (zrdI g x1 10 3).bind fun v1 =>
    zloop (fun s => f_X10_compare_14 N x0 x1 x2 s.1 s.2) N (v1, g)

def f_X10_compare (N : Nat) (x0 : Nat) (x1 : Nat)  (g : ZS) : Option ZS :=
  (zrdI g x0 10 3).bind fun v1 =>
  zloop (fun s => f_X10_compare_5 N x0 x1 s.1 s.2) N (v1, g)

def f_X11_leastOfLongest_70 (N : Nat) (x0 : Nat) (x1 : Int32) (x2 : Int32) (x3 : Int32) (x4 : Int32)  (g : ZS) : Option ((Int32) ⊕ Int32) :=
  some (.inl (x4 + (1 : Int32)))

def f_X11_leastOfLongest_3 (N : Nat) (x0 : Nat) (x1 : Int32) (x2 : Int32) (x3 : Int32) (x4 : Int32)  (g : ZS) : Option ((Int32) ⊕ Int32) :=
  if (8 : Int32) ≤ x4 then
    (
      some (-1 : Int32)).map Sum.inr
  else
    (zrdR g x0 11 12).bind fun v1 =>
    zvs g v1 10 <| (f_X10_placeOf N v1 x4 g).bind fun v2 =>
    (zrdR g x0 11 13).bind fun v3 =>
    zvs g v3 10 <| (f_X10_placeOf N v3 x4 g).bind fun v4 =>
    if v2 < x1 then
      f_X11_leastOfLongest_70 N x0 x1 x2 x3 x4 g
    else
      if v4 < x2 then
        f_X11_leastOfLongest_70 N x0 x1 x2 x3 x4 g
      else
        (zrdR g x0 11 12).bind fun v5 =>
        (zrdR g v5 10 2).bind fun v6 =>
        (zaald 27 g v6 (v2 + (1 : Int32))).bind fun v7 =>
        (zald 20 g v7 (v4 + (1 : Int32))).bind fun v8 =>
        if ((1 : Int32) + v8) = x3 then
          (
            some x4).map Sum.inr
        else
          f_X11_leastOfLongest_70 N x0 x1 x2 x3 x4 g

def f_X11_leastOfLongest (N : Nat) (x0 : Nat) (x1 : Int32) (x2 : Int32) (x3 : Int32)  (g : ZS) : Option Int32 :=
  zloop (fun s => f_X11_leastOfLongest_3 N x0 x1 x2 x3 s g) N (0 : Int32)

def f_X11_alike_57 (N : Nat) (x0 : Nat) (x3 : Int32) (x4 : Int32) (x5 : Int32) (x6 : Int32)  (g : ZS) : Option ((Int32 × Int32 × Int32 × ZS) ⊕ (Int32 × ZS)) :=
  if x6 ≤ 0 then
    (
      some (x3, g)).map Sum.inr
  else
    zvs g x0 11 <| (f_X11_leastOfLongest N x0 x4 x5 x6 g).bind fun v1 =>
    (zrdR g x0 11 1).bind fun v2 =>
    zvs g v2 9 <| (f_X9_add v2 v1.toInt64 g).bind fun g3 =>
    (zrdR g3 x0 11 12).bind fun v4 =>
    zvs g3 v4 10 <| (f_X10_placeOf N v4 v1 g3).bind fun v5 =>
    (zrdR g3 x0 11 13).bind fun v6 =>
    zvs g3 v6 10 <| (f_X10_placeOf N v6 v1 g3).bind fun v7 =>
    some (.inl (v5 + (1 : Int32), v7 + (1 : Int32), x6 + (-1 : Int32), g3))

def f_X11_alike (N : Nat) (x0 : Nat) (x1 : Int32) (x2 : Int32)  (g : ZS) : Option (Int32 × ZS) :=
  zvs g x0 11 <| (f_X11_isPair x0 x1 x2 g).bind fun v1 =>
  if v1 = 0 then
    some ((-1 : Int32), g)
  else
    zvs g x0 11 <| (f_X11_followBoth N x0 x1 x2 g).bind fun g2 =>
    (zrdR g2 x0 11 12).bind fun v3 =>
    (zrdR g2 x0 11 13).bind fun v4 =>
    zvs g2 v3 10 <| (f_X10_compare N v3 v4 g2).bind fun g5 =>
    (zrdR g5 x0 11 1).bind fun v6 =>
    (zwrI g5 v6 9 1 (0 : Int32)).bind fun g7 =>
    (zrdR g7 x0 11 12).bind fun v8 =>
    (zrdR g7 v8 10 2).bind fun v9 =>
    (zaald 27 g7 v9 (0 : Int32)).bind fun v10 =>
    (zald 20 g7 v10 (0 : Int32)).bind fun v11 =>
    zloop (fun s => f_X11_alike_57 N x0 v11 s.1 s.2.1 s.2.2.1 s.2.2.2) N ((0 : Int32), (0 : Int32), v11, g7)

def f_X12_areTwo_26  (s0 : Int32) (g : ZS) : Option Int32 :=
  if vp_nar .boolean s0 = s0 then some s0 else none

def f_X12_areTwo_25   (g : ZS) : Option Int32 :=
  f_X12_areTwo_26 (0 : Int32) g

def f_X12_areTwo (x0 : Nat) (x1 : Int32) (x2 : Int32)  (g : ZS) : Option Int32 :=
  zvs g x0 12 <| (f_X12_isParrot x0 x1 g).bind fun v1 =>
  if v1 = 0 then
    f_X12_areTwo_25 g
  else
    zvs g x0 12 <| (f_X12_isParrot x0 x2 g).bind fun v2 =>
    if v2 = 0 then
      f_X12_areTwo_25 g
    else
      if x1 = x2 then
        f_X12_areTwo_25 g
      else
        f_X12_areTwo_26 (1 : Int32) g

theorem j_X10_differsAt_14 {X : ZX} (N : Nat) (x0 : Nat) (x1 : Nat) (x2 : Int32) (x3 : Int32)   (g : ZS) {K : ((Int32) ⊕ Int32) → Prop} (h0 : ∀ v, K (.inr v) → xK X (some (.int v)) g) (hL14 : ∀ s, K (.inl s) → zG Y_X10_differsAt X 0 0 14 [some (.ref x0), some (.ref x1), some (.int x2), some (.int s)] [] g) : J Y_X10_differsAt X 0 0 14 [some (.ref x0), some (.ref x1), some (.int x2), some (.int x3)] [] g (f_X10_differsAt_14 N x0 x1 x2 x3 g) K := by
  unfold f_X10_differsAt_14
  refine J_iload_n rfl rfl (show Dc Y_X10_differsAt 14 (.iload_n 3) 1 15 from ⟨by decide +kernel, rfl⟩) ?_
  refine J_iload_n rfl rfl (show Dc Y_X10_differsAt 15 (.iload_n 2) 1 16 from ⟨by decide +kernel, rfl⟩) ?_
  refine J_icmp_ge (tg := 40) (show Dc Y_X10_differsAt 16 (.if_icmp .ge 24) 3 19 from ⟨by decide +kernel, rfl⟩) (by decide) (fun h => ?_) (fun h => ?_)
  · refine J_map (f := Sum.inr) (fun _ h => h) ?_
    refine J_iconst (-1 : Int32) rfl (show Dc Y_X10_differsAt 40 (.iconst (-1)) 1 41 from ⟨by decide +kernel, rfl⟩) ?_
    exact J_reti (show Dc Y_X10_differsAt 41 (.ireturn) 1 42 from ⟨by decide +kernel, rfl⟩) rfl (h0 _) (by decide) (by decide)
  · refine J_aload_n rfl rfl (show Dc Y_X10_differsAt 19 (.aload_n 0) 1 20 from ⟨by decide +kernel, rfl⟩) ?_
    refine J_iload_n rfl rfl (show Dc Y_X10_differsAt 20 (.iload_n 3) 1 21 from ⟨by decide +kernel, rfl⟩) ?_
    refine J_callVi (fun r => r) (fun _ => g) (show Dc Y_X10_differsAt 21 (.invokevirtual 58) 3 24 from ⟨by decide +kernel, rfl⟩) w_m_RX10_58 w_in_X10_at rfl w_se_X10_at w_cw_X10_at (c_X10_at x0 x3 g) rfl rfl (by decide) (Nat.le_of_ble_eq_true rfl) (by decide) (by decide) (fun v1 => ?_)
    refine J_aload_n rfl rfl (show Dc Y_X10_differsAt 24 (.aload_n 1) 1 25 from ⟨by decide +kernel, rfl⟩) ?_
    refine J_iload_n rfl rfl (show Dc Y_X10_differsAt 25 (.iload_n 3) 1 26 from ⟨by decide +kernel, rfl⟩) ?_
    refine J_callVi (fun r => r) (fun _ => g) (show Dc Y_X10_differsAt 26 (.invokevirtual 58) 3 29 from ⟨by decide +kernel, rfl⟩) w_m_RX10_58 w_in_X10_at rfl w_se_X10_at w_cw_X10_at (c_X10_at x1 x3 g) rfl rfl (by decide) (Nat.le_of_ble_eq_true rfl) (by decide) (by decide) (fun v2 => ?_)
    refine J_icmp_eq (tg := 34) (show Dc Y_X10_differsAt 29 (.if_icmp .eq 5) 3 32 from ⟨by decide +kernel, rfl⟩) (by decide) (fun h => ?_) (fun h => ?_)
    · refine J_iinc (1 : Int32) [some (.ref x0), some (.ref x1), some (.int x2), some (.int (x3 + (1 : Int32)))] (show Dc Y_X10_differsAt 34 (.iinc 3 1) 3 37 from ⟨by decide +kernel, rfl⟩) rfl rfl (by decide) rfl rfl ?_
      refine J_goto (tg := 14) (show Dc Y_X10_differsAt 37 (.goto (-23)) 3 40 from ⟨by decide +kernel, rfl⟩) (by decide) ?_
      exact J_leaf (fun h => hL14 (x3 + (1 : Int32)) h)
    · refine J_map (f := Sum.inr) (fun _ h => h) ?_
      refine J_iload_n rfl rfl (show Dc Y_X10_differsAt 32 (.iload_n 3) 1 33 from ⟨by decide +kernel, rfl⟩) ?_
      exact J_reti (show Dc Y_X10_differsAt 33 (.ireturn) 1 34 from ⟨by decide +kernel, rfl⟩) rfl (h0 _) (by decide) (by decide)

theorem j_X10_differsAt {X : ZX} (N : Nat) (x0 : Nat) (x1 : Nat)   (g : ZS) {K : Int32 → Prop} (h0 : ∀ v, K v → xK X (some (.int v)) g) : J Y_X10_differsAt X 0 0 0 [some (.ref x0), some (.ref x1), none, none] [] g (f_X10_differsAt N x0 x1 g) K := by
  unfold f_X10_differsAt
  refine J_aload_n rfl rfl (show Dc Y_X10_differsAt 0 (.aload_n 0) 1 1 from ⟨by decide +kernel, rfl⟩) ?_
  refine J_getI (show Dc Y_X10_differsAt 1 (.getfield 23) 3 4 from ⟨by decide +kernel, rfl⟩) w_f_RX10_23 rfl (fun v1 => ?_)
  refine J_aload_n rfl rfl (show Dc Y_X10_differsAt 4 (.aload_n 1) 1 5 from ⟨by decide +kernel, rfl⟩) ?_
  refine J_getI (show Dc Y_X10_differsAt 5 (.getfield 23) 3 8 from ⟨by decide +kernel, rfl⟩) w_f_RX10_23 rfl (fun v2 => ?_)
  refine J_callSi (fun r => r) (fun _ => g) (show Dc Y_X10_differsAt 8 (.invokestatic 55) 3 11 from ⟨by decide +kernel, rfl⟩) w_m_RX10_55 w_st_J9_max_7cf53 w_cw_J9_max_7cf53 (c_J9_max_7cf53 v1 v2 g) rfl rfl (by decide) (Nat.le_of_ble_eq_true rfl) (by decide) (by decide) (fun v3 => ?_)
  refine J_istore_n [some (.ref x0), some (.ref x1), some (.int v3), none] (show Dc Y_X10_differsAt 11 (.istore_n 2) 1 12 from ⟨by decide +kernel, rfl⟩) rfl (by decide) rfl rfl ?_
  refine J_iconst (0 : Int32) rfl (show Dc Y_X10_differsAt 12 (.iconst 0) 1 13 from ⟨by decide +kernel, rfl⟩) ?_
  refine J_istore_n [some (.ref x0), some (.ref x1), some (.int v3), some (.int (0 : Int32))] (show Dc Y_X10_differsAt 13 (.istore_n 3) 1 14 from ⟨by decide +kernel, rfl⟩) rfl (by decide) rfl rfl ?_
  exact J_loop (X := X) (K := K) (uc := fun _ => 0) (us := fun _ => 0) (lf := fun s => [some (.ref x0), some (.ref x1), some (.int v3), some (.int s)]) (gf := fun s => g) (fun s => j_X10_differsAt_14 (K := zKl Y_X10_differsAt X 14 (fun _ => 0) (fun _ => 0) (fun s => [some (.ref x0), some (.ref x1), some (.int v3), some (.int s)]) (fun s => g) K) N x0 x1 v3 s g h0 (fun s h => h)) N (0 : Int32)

theorem c_X10_differsAt {l : Launch} {D : ZD} {B0 : Nat} (N : Nat) (x0 : Nat) (x1 : Nat) (g : ZS) : ∀ r, f_X10_differsAt N x0 x1 g = some r → zCt l D B0 yX10_differsAt Y_X10_differsAt [.ref x0, .ref x1] g (some (.int r)) g :=
  zCt_ofF (vo := fun r => some (.int r)) (so := fun _ => g) (by decide +kernel) rfl (fun h => by cases h) rfl (Nat.le_of_ble_eq_true rfl) (fun X => j_X10_differsAt N x0 x1 g (fun _ h => h))

theorem j_X11_wordsOf_32 {X : ZX} (N : Nat) (x0 : Nat) (x1 : Int32) (x2 : Int32) (x3 : Int32)   (g : ZS) {K : ((Int32 × Int32) ⊕ Int32) → Prop} (h0 : ∀ v, K (.inr v) → xK X (some (.int v)) g) (hL4 : ∀ s, K (.inl s) → zG Y_X11_wordsOf X 0 0 4 [some (.ref x0), some (.int x1), some (.int s.1), some (.int s.2)] [] g) : J Y_X11_wordsOf X 0 0 32 [some (.ref x0), some (.int x1), some (.int x2), some (.int x3)] [] g (f_X11_wordsOf_32 N x0 x1 x2 x3 g) K := by
  unfold f_X11_wordsOf_32
  refine J_iinc (1 : Int32) [some (.ref x0), some (.int x1), some (.int x2), some (.int (x3 + (1 : Int32)))] (show Dc Y_X11_wordsOf 32 (.iinc 3 1) 3 35 from ⟨by decide +kernel, rfl⟩) rfl rfl (by decide) rfl rfl ?_
  refine J_goto (tg := 4) (show Dc Y_X11_wordsOf 35 (.goto (-31)) 3 38 from ⟨by decide +kernel, rfl⟩) (by decide) ?_
  exact J_leaf (fun h => hL4 (x2, x3 + (1 : Int32)) h)

theorem j_X11_wordsOf_4 {X : ZX} (N : Nat) (x0 : Nat) (x1 : Int32) (x2 : Int32) (x3 : Int32)   (g : ZS) {K : ((Int32 × Int32) ⊕ Int32) → Prop} (h0 : ∀ v, K (.inr v) → xK X (some (.int v)) g) (hL4 : ∀ s, K (.inl s) → zG Y_X11_wordsOf X 0 0 4 [some (.ref x0), some (.int x1), some (.int s.1), some (.int s.2)] [] g) : J Y_X11_wordsOf X 0 0 4 [some (.ref x0), some (.int x1), some (.int x2), some (.int x3)] [] g (f_X11_wordsOf_4 N x0 x1 x2 x3 g) K := by
  unfold f_X11_wordsOf_4
  refine J_iload_n rfl rfl (show Dc Y_X11_wordsOf 4 (.iload_n 3) 1 5 from ⟨by decide +kernel, rfl⟩) ?_
  refine J_aload_n rfl rfl (show Dc Y_X11_wordsOf 5 (.aload_n 0) 1 6 from ⟨by decide +kernel, rfl⟩) ?_
  refine J_getR (show Dc Y_X11_wordsOf 6 (.getfield 47) 3 9 from ⟨by decide +kernel, rfl⟩) w_f_RX11_47 rfl (fun v1 => ?_)
  refine J_getI (show Dc Y_X11_wordsOf 9 (.getfield 146) 3 12 from ⟨by decide +kernel, rfl⟩) w_f_RX11_146 rfl (fun v2 => ?_)
  refine J_icmp_ge (tg := 38) (show Dc Y_X11_wordsOf 12 (.if_icmp .ge 26) 3 15 from ⟨by decide +kernel, rfl⟩) (by decide) (fun h => ?_) (fun h => ?_)
  · refine J_map (f := Sum.inr) (fun _ h => h) ?_
    refine J_iload_n rfl rfl (show Dc Y_X11_wordsOf 38 (.iload_n 2) 1 39 from ⟨by decide +kernel, rfl⟩) ?_
    exact J_reti (show Dc Y_X11_wordsOf 39 (.ireturn) 1 40 from ⟨by decide +kernel, rfl⟩) rfl (h0 _) (by decide) (by decide)
  · refine J_iload_n rfl rfl (show Dc Y_X11_wordsOf 15 (.iload_n 1) 1 16 from ⟨by decide +kernel, rfl⟩) ?_
    refine J_iload_n rfl rfl (show Dc Y_X11_wordsOf 16 (.iload_n 3) 1 17 from ⟨by decide +kernel, rfl⟩) ?_
    refine J_ishr (show Dc Y_X11_wordsOf 17 (.ishr) 1 18 from ⟨by decide +kernel, rfl⟩) ?_
    refine J_iconst (1 : Int32) rfl (show Dc Y_X11_wordsOf 18 (.iconst 1) 1 19 from ⟨by decide +kernel, rfl⟩) ?_
    refine J_iand (show Dc Y_X11_wordsOf 19 (.iand) 1 20 from ⟨by decide +kernel, rfl⟩) ?_
    refine J_if_eq (tg := 32) (show Dc Y_X11_wordsOf 20 (.ifCond .eq 12) 3 23 from ⟨by decide +kernel, rfl⟩) (by decide) (fun h => ?_) (fun h => ?_)
    · exact j_X11_wordsOf_32 N x0 x1 x2 x3 g h0 hL4
    · refine J_iload_n rfl rfl (show Dc Y_X11_wordsOf 23 (.iload_n 2) 1 24 from ⟨by decide +kernel, rfl⟩) ?_
      refine J_aload_n rfl rfl (show Dc Y_X11_wordsOf 24 (.aload_n 0) 1 25 from ⟨by decide +kernel, rfl⟩) ?_
      refine J_getR (show Dc Y_X11_wordsOf 25 (.getfield 100) 3 28 from ⟨by decide +kernel, rfl⟩) w_f_RX11_100 rfl (fun v3 => ?_)
      refine J_iload_n rfl rfl (show Dc Y_X11_wordsOf 28 (.iload_n 3) 1 29 from ⟨by decide +kernel, rfl⟩) ?_
      refine J_iald (show Dc Y_X11_wordsOf 29 (.iaload) 1 30 from ⟨by decide +kernel, rfl⟩) (fun v4 => ?_)
      refine J_ior (show Dc Y_X11_wordsOf 30 (.ior) 1 31 from ⟨by decide +kernel, rfl⟩) ?_
      refine J_istore_n [some (.ref x0), some (.int x1), some (.int (x2 ||| v4)), some (.int x3)] (show Dc Y_X11_wordsOf 31 (.istore_n 2) 1 32 from ⟨by decide +kernel, rfl⟩) rfl (by decide) rfl rfl ?_
      exact j_X11_wordsOf_32 N x0 x1 (x2 ||| v4) x3 g h0 hL4

theorem j_X11_wordsOf {X : ZX} (N : Nat) (x0 : Nat) (x1 : Int32)   (g : ZS) {K : Int32 → Prop} (h0 : ∀ v, K v → xK X (some (.int v)) g) : J Y_X11_wordsOf X 0 0 0 [some (.ref x0), some (.int x1), none, none] [] g (f_X11_wordsOf N x0 x1 g) K := by
  unfold f_X11_wordsOf
  refine J_iconst (0 : Int32) rfl (show Dc Y_X11_wordsOf 0 (.iconst 0) 1 1 from ⟨by decide +kernel, rfl⟩) ?_
  refine J_istore_n [some (.ref x0), some (.int x1), some (.int (0 : Int32)), none] (show Dc Y_X11_wordsOf 1 (.istore_n 2) 1 2 from ⟨by decide +kernel, rfl⟩) rfl (by decide) rfl rfl ?_
  refine J_iconst (0 : Int32) rfl (show Dc Y_X11_wordsOf 2 (.iconst 0) 1 3 from ⟨by decide +kernel, rfl⟩) ?_
  refine J_istore_n [some (.ref x0), some (.int x1), some (.int (0 : Int32)), some (.int (0 : Int32))] (show Dc Y_X11_wordsOf 3 (.istore_n 3) 1 4 from ⟨by decide +kernel, rfl⟩) rfl (by decide) rfl rfl ?_
  exact J_loop (X := X) (K := K) (uc := fun _ => 0) (us := fun _ => 0) (lf := fun s => [some (.ref x0), some (.int x1), some (.int s.1), some (.int s.2)]) (gf := fun s => g) (fun s => j_X11_wordsOf_4 (K := zKl Y_X11_wordsOf X 4 (fun _ => 0) (fun _ => 0) (fun s => [some (.ref x0), some (.int x1), some (.int s.1), some (.int s.2)]) (fun s => g) K) N x0 x1 s.1 s.2 g h0 (fun s h => h)) N ((0 : Int32), (0 : Int32))

theorem c_X11_wordsOf {l : Launch} {D : ZD} {B0 : Nat} (N : Nat) (x0 : Nat) (x1 : Int32) (g : ZS) : ∀ r, f_X11_wordsOf N x0 x1 g = some r → zCt l D B0 yX11_wordsOf Y_X11_wordsOf [.ref x0, .int x1] g (some (.int r)) g :=
  zCt_ofF (vo := fun r => some (.int r)) (so := fun _ => g) (by decide +kernel) rfl (fun h => by cases h) rfl (Nat.le_of_ble_eq_true rfl) (fun X => j_X11_wordsOf N x0 x1 g (fun _ h => h))

theorem j_X11_hear_22 {X : ZX} (N : Nat)    (g : ZS) {K : (Int32 × ZS) → Prop} (h0 : ∀ v g, K (v, g) → xK X (some (.int v)) g) : J Y_X11_hear X 0 0 22 [none, none, none, none, none, none, none] [] g (f_X11_hear_22 N g) K := by
  unfold f_X11_hear_22
  refine J_iconst (-1 : Int32) rfl (show Dc Y_X11_hear 22 (.iconst (-1)) 1 23 from ⟨by decide +kernel, rfl⟩) ?_
  exact J_reti (show Dc Y_X11_hear 23 (.ireturn) 1 24 from ⟨by decide +kernel, rfl⟩) rfl (h0 _ _) (by decide) (by decide)

theorem j_X11_hear_86 {X : ZX} (N : Nat) (x0 : Nat) (x1 : Int32) (x3 : Int32) (x4 : Int32) (x5 : Int32)   (g : ZS) {K : ((Int32 × Int32 × Int32) ⊕ (Int32 × ZS)) → Prop} (h0 : ∀ v g, K (.inr (v, g)) → xK X (some (.int v)) g) (hL38 : ∀ s, K (.inl s) → zG Y_X11_hear X 0 0 38 [some (.ref x0), some (.int x1), none, some (.int s.1), some (.int s.2.1), some (.int s.2.2), none] [] g) : J Y_X11_hear X 0 0 86 [some (.ref x0), some (.int x1), none, some (.int x3), some (.int x4), some (.int x5), none] [] g (f_X11_hear_86 N x0 x1 x3 x4 x5 g) K := by
  unfold f_X11_hear_86
  refine J_iinc (1 : Int32) [some (.ref x0), some (.int x1), none, some (.int x3), some (.int x4), some (.int (x5 + (1 : Int32))), none] (show Dc Y_X11_hear 86 (.iinc 5 1) 3 89 from ⟨by decide +kernel, rfl⟩) rfl rfl (by decide) rfl rfl ?_
  refine J_goto (tg := 38) (show Dc Y_X11_hear 89 (.goto (-51)) 3 92 from ⟨by decide +kernel, rfl⟩) (by decide) ?_
  exact J_leaf (fun h => hL38 (x3, x4, x5 + (1 : Int32)) h)

theorem j_X11_hear_38 {X : ZX} (N : Nat) (x0 : Nat) (x1 : Int32) (x3 : Int32) (x4 : Int32) (x5 : Int32)   (g : ZS) {K : ((Int32 × Int32 × Int32) ⊕ (Int32 × ZS)) → Prop} (h0 : ∀ v g, K (.inr (v, g)) → xK X (some (.int v)) g) (hL38 : ∀ s, K (.inl s) → zG Y_X11_hear X 0 0 38 [some (.ref x0), some (.int x1), none, some (.int s.1), some (.int s.2.1), some (.int s.2.2), none] [] g) : J Y_X11_hear X 0 0 38 [some (.ref x0), some (.int x1), none, some (.int x3), some (.int x4), some (.int x5), none] [] g (f_X11_hear_38 N x0 x1 x3 x4 x5 g) K := by
  unfold f_X11_hear_38
  refine J_iload rfl (show Dc Y_X11_hear 38 (.iload 5) 2 40 from ⟨by decide +kernel, rfl⟩) ?_
  refine J_iconst (1 : Int32) rfl (show Dc Y_X11_hear 40 (.iconst 1) 1 41 from ⟨by decide +kernel, rfl⟩) ?_
  refine J_aload_n rfl rfl (show Dc Y_X11_hear 41 (.aload_n 0) 1 42 from ⟨by decide +kernel, rfl⟩) ?_
  refine J_getR (show Dc Y_X11_hear 42 (.getfield 47) 3 45 from ⟨by decide +kernel, rfl⟩) w_f_RX11_47 rfl (fun v1 => ?_)
  refine J_getI (show Dc Y_X11_hear 45 (.getfield 146) 3 48 from ⟨by decide +kernel, rfl⟩) w_f_RX11_146 rfl (fun v2 => ?_)
  refine J_ishl (show Dc Y_X11_hear 48 (.ishl) 1 49 from ⟨by decide +kernel, rfl⟩) ?_
  refine J_icmp_ge (tg := 92) (show Dc Y_X11_hear 49 (.if_icmp .ge 43) 3 52 from ⟨by decide +kernel, rfl⟩) (by decide) (fun h => ?_) (fun h => ?_)
  · refine J_map (f := Sum.inr) (fun _ h => h) ?_
    refine J_iload_n rfl rfl (show Dc Y_X11_hear 92 (.iload_n 3) 1 93 from ⟨by decide +kernel, rfl⟩) ?_
    refine J_iconst (-1 : Int32) rfl (show Dc Y_X11_hear 93 (.iconst (-1)) 1 94 from ⟨by decide +kernel, rfl⟩) ?_
    refine J_icmp_ne (tg := 100) (show Dc Y_X11_hear 94 (.if_icmp .ne 6) 3 97 from ⟨by decide +kernel, rfl⟩) (by decide) (fun h => ?_) (fun h => ?_)
    · refine J_aload_n rfl rfl (show Dc Y_X11_hear 100 (.aload_n 0) 1 101 from ⟨by decide +kernel, rfl⟩) ?_
      refine J_getR (show Dc Y_X11_hear 101 (.getfield 19) 3 104 from ⟨by decide +kernel, rfl⟩) w_f_RX11_19 rfl (fun v3 => ?_)
      refine J_iload_n rfl rfl (show Dc Y_X11_hear 104 (.iload_n 3) 1 105 from ⟨by decide +kernel, rfl⟩) ?_
      refine J_i2l (show Dc Y_X11_hear 105 (.i2l) 1 106 from ⟨by decide +kernel, rfl⟩) ?_
      refine J_callVv (fun r => r) (show Dc Y_X11_hear 106 (.invokevirtual 339) 3 109 from ⟨by decide +kernel, rfl⟩) w_m_RX11_339 w_in_X9_only rfl w_se_X9_only w_cw_X9_only (c_X9_only v3 x3.toInt64 g) rfl rfl (by decide) (Nat.le_of_ble_eq_true rfl) (by decide) (by decide) (fun g4 => ?_)
      refine J_iload rfl (show Dc Y_X11_hear 109 (.iload 4) 2 111 from ⟨by decide +kernel, rfl⟩) ?_
      exact J_reti (show Dc Y_X11_hear 111 (.ireturn) 1 112 from ⟨by decide +kernel, rfl⟩) rfl (h0 _ _) (by decide) (by decide)
    · refine J_bipush (-2 : Int32) rfl (show Dc Y_X11_hear 97 (.bipush (-2)) 2 99 from ⟨by decide +kernel, rfl⟩) ?_
      exact J_reti (show Dc Y_X11_hear 99 (.ireturn) 1 100 from ⟨by decide +kernel, rfl⟩) rfl (h0 _ _) (by decide) (by decide)
  · refine J_iload rfl (show Dc Y_X11_hear 52 (.iload 5) 2 54 from ⟨by decide +kernel, rfl⟩) ?_
    refine J_callSi (fun r => r) (fun _ => g) (show Dc Y_X11_hear 54 (.invokestatic 255) 3 57 from ⟨by decide +kernel, rfl⟩) w_m_RX11_255 w_st_J6_bitCount_0f7a4 w_cw_J6_bitCount_0f7a4 (c_J6_bitCount_0f7a4 x5 g) rfl rfl (by decide) (Nat.le_of_ble_eq_true rfl) (by decide) (by decide) (fun v5 => ?_)
    refine J_istore [some (.ref x0), some (.int x1), none, some (.int x3), some (.int x4), some (.int x5), some (.int v5)] (show Dc Y_X11_hear 57 (.istore 6) 2 59 from ⟨by decide +kernel, rfl⟩) (by decide) rfl rfl ?_
    refine J_iload rfl (show Dc Y_X11_hear 59 (.iload 6) 2 61 from ⟨by decide +kernel, rfl⟩) ?_
    refine J_iload rfl (show Dc Y_X11_hear 61 (.iload 4) 2 63 from ⟨by decide +kernel, rfl⟩) ?_
    refine J_icmp_ge (tg := 86) (show Dc Y_X11_hear 63 (.if_icmp .ge 23) 3 66 from ⟨by decide +kernel, rfl⟩) (by decide) (fun h => ?_) (fun h => ?_)
    · refine J_mask [true, true, false, true, true, true, false] ?_
      exact j_X11_hear_86 N x0 x1 x3 x4 x5 g h0 hL38
    · refine J_iload_n rfl rfl (show Dc Y_X11_hear 66 (.iload_n 1) 1 67 from ⟨by decide +kernel, rfl⟩) ?_
      refine J_aload_n rfl rfl (show Dc Y_X11_hear 67 (.aload_n 0) 1 68 from ⟨by decide +kernel, rfl⟩) ?_
      refine J_iload rfl (show Dc Y_X11_hear 68 (.iload 5) 2 70 from ⟨by decide +kernel, rfl⟩) ?_
      refine J_callVi (fun r => r) (fun _ => g) (show Dc Y_X11_hear 70 (.invokevirtual 352) 3 73 from ⟨by decide +kernel, rfl⟩) w_m_RX11_352 w_in_X11_wordsOf rfl w_se_X11_wordsOf w_cw_X11_wordsOf (c_X11_wordsOf N x0 x5 g) rfl rfl (by decide) (Nat.le_of_ble_eq_true rfl) (by decide) (by decide) (fun v6 => ?_)
      refine J_iconst (-1 : Int32) rfl (show Dc Y_X11_hear 73 (.iconst (-1)) 1 74 from ⟨by decide +kernel, rfl⟩) ?_
      refine J_ixor (show Dc Y_X11_hear 74 (.ixor) 1 75 from ⟨by decide +kernel, rfl⟩) ?_
      refine J_iand (show Dc Y_X11_hear 75 (.iand) 1 76 from ⟨by decide +kernel, rfl⟩) ?_
      refine J_if_ne (tg := 86) (show Dc Y_X11_hear 76 (.ifCond .ne 10) 3 79 from ⟨by decide +kernel, rfl⟩) (by decide) (fun h => ?_) (fun h => ?_)
      · refine J_mask [true, true, false, true, true, true, false] ?_
        exact j_X11_hear_86 N x0 x1 x3 x4 x5 g h0 hL38
      · refine J_iload rfl (show Dc Y_X11_hear 79 (.iload 6) 2 81 from ⟨by decide +kernel, rfl⟩) ?_
        refine J_istore [some (.ref x0), some (.int x1), none, some (.int x3), some (.int v5), some (.int x5), some (.int v5)] (show Dc Y_X11_hear 81 (.istore 4) 2 83 from ⟨by decide +kernel, rfl⟩) (by decide) rfl rfl ?_
        refine J_iload rfl (show Dc Y_X11_hear 83 (.iload 5) 2 85 from ⟨by decide +kernel, rfl⟩) ?_
        refine J_istore_n [some (.ref x0), some (.int x1), none, some (.int x5), some (.int v5), some (.int x5), some (.int v5)] (show Dc Y_X11_hear 85 (.istore_n 3) 1 86 from ⟨by decide +kernel, rfl⟩) rfl (by decide) rfl rfl ?_
        refine J_mask [true, true, false, true, true, true, false] ?_
        exact j_X11_hear_86 N x0 x1 x5 v5 x5 g h0 hL38

theorem j_X11_hear {X : ZX} (N : Nat) (x0 : Nat) (x1 : Int32) (x2 : Int32)   (g : ZS) {K : (Int32 × ZS) → Prop} (h0 : ∀ v g, K (v, g) → xK X (some (.int v)) g) : J Y_X11_hear X 0 0 0 [some (.ref x0), some (.int x1), some (.int x2), none, none, none, none] [] g (f_X11_hear N x0 x1 x2 g) K := by
  unfold f_X11_hear
  refine J_iload_n rfl rfl (show Dc Y_X11_hear 0 (.iload_n 1) 1 1 from ⟨by decide +kernel, rfl⟩) ?_
  refine J_if_lt (tg := 22) (show Dc Y_X11_hear 1 (.ifCond .lt 21) 3 4 from ⟨by decide +kernel, rfl⟩) (by decide) (fun h => ?_) (fun h => ?_)
  · refine J_mask [false, false, false, false, false, false, false] ?_
    exact j_X11_hear_22 N g h0
  · refine J_iload_n rfl rfl (show Dc Y_X11_hear 4 (.iload_n 1) 1 5 from ⟨by decide +kernel, rfl⟩) ?_
    refine J_sipush (255 : Int32) rfl (show Dc Y_X11_hear 5 (.sipush 255) 3 8 from ⟨by decide +kernel, rfl⟩) ?_
    refine J_icmp_gt (tg := 22) (show Dc Y_X11_hear 8 (.if_icmp .gt 14) 3 11 from ⟨by decide +kernel, rfl⟩) (by decide) (fun h => ?_) (fun h => ?_)
    · refine J_mask [false, false, false, false, false, false, false] ?_
      exact j_X11_hear_22 N g h0
    · refine J_iload_n rfl rfl (show Dc Y_X11_hear 11 (.iload_n 2) 1 12 from ⟨by decide +kernel, rfl⟩) ?_
      refine J_iconst (1 : Int32) rfl (show Dc Y_X11_hear 12 (.iconst 1) 1 13 from ⟨by decide +kernel, rfl⟩) ?_
      refine J_icmp_lt (tg := 22) (show Dc Y_X11_hear 13 (.if_icmp .lt 9) 3 16 from ⟨by decide +kernel, rfl⟩) (by decide) (fun h => ?_) (fun h => ?_)
      · refine J_mask [false, false, false, false, false, false, false] ?_
        exact j_X11_hear_22 N g h0
      · refine J_iload_n rfl rfl (show Dc Y_X11_hear 16 (.iload_n 2) 1 17 from ⟨by decide +kernel, rfl⟩) ?_
        refine J_bipush (8 : Int32) rfl (show Dc Y_X11_hear 17 (.bipush 8) 2 19 from ⟨by decide +kernel, rfl⟩) ?_
        refine J_icmp_le (tg := 24) (show Dc Y_X11_hear 19 (.if_icmp .le 5) 3 22 from ⟨by decide +kernel, rfl⟩) (by decide) (fun h => ?_) (fun h => ?_)
        · refine J_aload_n rfl rfl (show Dc Y_X11_hear 24 (.aload_n 0) 1 25 from ⟨by decide +kernel, rfl⟩) ?_
          refine J_iload_n rfl rfl (show Dc Y_X11_hear 25 (.iload_n 2) 1 26 from ⟨by decide +kernel, rfl⟩) ?_
          refine J_callVv (fun r => r) (show Dc Y_X11_hear 26 (.invokevirtual 335) 3 29 from ⟨by decide +kernel, rfl⟩) w_m_RX11_335 w_in_X11_gatherSets rfl w_se_X11_gatherSets w_cw_X11_gatherSets (c_X11_gatherSets N x0 x2 g) rfl rfl (by decide) (Nat.le_of_ble_eq_true rfl) (by decide) (by decide) (fun g1 => ?_)
          refine J_iconst (-1 : Int32) rfl (show Dc Y_X11_hear 29 (.iconst (-1)) 1 30 from ⟨by decide +kernel, rfl⟩) ?_
          refine J_istore_n [some (.ref x0), some (.int x1), some (.int x2), some (.int (-1 : Int32)), none, none, none] (show Dc Y_X11_hear 30 (.istore_n 3) 1 31 from ⟨by decide +kernel, rfl⟩) rfl (by decide) rfl rfl ?_
          refine J_bipush (7 : Int32) rfl (show Dc Y_X11_hear 31 (.bipush 7) 2 33 from ⟨by decide +kernel, rfl⟩) ?_
          refine J_istore [some (.ref x0), some (.int x1), some (.int x2), some (.int (-1 : Int32)), some (.int (7 : Int32)), none, none] (show Dc Y_X11_hear 33 (.istore 4) 2 35 from ⟨by decide +kernel, rfl⟩) (by decide) rfl rfl ?_
          refine J_iconst (0 : Int32) rfl (show Dc Y_X11_hear 35 (.iconst 0) 1 36 from ⟨by decide +kernel, rfl⟩) ?_
          refine J_istore [some (.ref x0), some (.int x1), some (.int x2), some (.int (-1 : Int32)), some (.int (7 : Int32)), some (.int (0 : Int32)), none] (show Dc Y_X11_hear 36 (.istore 5) 2 38 from ⟨by decide +kernel, rfl⟩) (by decide) rfl rfl ?_
          refine J_mask [true, true, false, true, true, true, false] ?_
          exact J_loop (X := X) (K := K) (uc := fun _ => 0) (us := fun _ => 0) (lf := fun s => [some (.ref x0), some (.int x1), none, some (.int s.1), some (.int s.2.1), some (.int s.2.2), none]) (gf := fun s => g1) (fun s => j_X11_hear_38 (K := zKl Y_X11_hear X 38 (fun _ => 0) (fun _ => 0) (fun s => [some (.ref x0), some (.int x1), none, some (.int s.1), some (.int s.2.1), some (.int s.2.2), none]) (fun s => g1) K) N x0 x1 s.1 s.2.1 s.2.2 g1 h0 (fun s h => h)) N ((-1 : Int32), (7 : Int32), (0 : Int32))
        · refine J_mask [false, false, false, false, false, false, false] ?_
          exact j_X11_hear_22 N g h0

theorem c_X11_hear {l : Launch} {D : ZD} {B0 : Nat} (N : Nat) (x0 : Nat) (x1 : Int32) (x2 : Int32) (g : ZS) : ∀ r, f_X11_hear N x0 x1 x2 g = some r → zCt l D B0 yX11_hear Y_X11_hear [.ref x0, .int x1, .int x2] g (some (.int r.1)) r.2 :=
  zCt_ofF (vo := fun r => some (.int r.1)) (so := fun r => r.2) (by decide +kernel) rfl (fun h => by cases h) rfl (Nat.le_of_ble_eq_true rfl) (fun X => j_X11_hear N x0 x1 x2 g (fun _ _ h => h))

theorem j_X12_has_14 {X : ZX}  (s0 : Int32)  (g : ZS) {K : Int32 → Prop} (h0 : ∀ v, K v → xK X (some (.int v)) g) : J Y_X12_has X 0 0 14 [none, none] [.int s0] g (f_X12_has_14 s0) K := by
  unfold f_X12_has_14
  exact J_retZ (show Dc Y_X12_has 14 (.ireturn) 1 15 from ⟨by decide +kernel, rfl⟩) rfl (h0 _) (by decide) (by decide)

theorem j_X12_has {X : ZX} (x0 : Int32) (x1 : Int32)   (g : ZS) {K : Int32 → Prop} (h0 : ∀ v, K v → xK X (some (.int v)) g) : J Y_X12_has X 0 0 0 [some (.int x0), some (.int x1)] [] g (f_X12_has x0 x1) K := by
  unfold f_X12_has
  refine J_iload_n rfl rfl (show Dc Y_X12_has 0 (.iload_n 0) 1 1 from ⟨by decide +kernel, rfl⟩) ?_
  refine J_iload_n rfl rfl (show Dc Y_X12_has 1 (.iload_n 1) 1 2 from ⟨by decide +kernel, rfl⟩) ?_
  refine J_ishr (show Dc Y_X12_has 2 (.ishr) 1 3 from ⟨by decide +kernel, rfl⟩) ?_
  refine J_iconst (1 : Int32) rfl (show Dc Y_X12_has 3 (.iconst 1) 1 4 from ⟨by decide +kernel, rfl⟩) ?_
  refine J_iand (show Dc Y_X12_has 4 (.iand) 1 5 from ⟨by decide +kernel, rfl⟩) ?_
  refine J_iconst (1 : Int32) rfl (show Dc Y_X12_has 5 (.iconst 1) 1 6 from ⟨by decide +kernel, rfl⟩) ?_
  refine J_icmp_ne (tg := 13) (show Dc Y_X12_has 6 (.if_icmp .ne 7) 3 9 from ⟨by decide +kernel, rfl⟩) (by decide) (fun h => ?_) (fun h => ?_)
  · refine J_iconst (0 : Int32) rfl (show Dc Y_X12_has 13 (.iconst 0) 1 14 from ⟨by decide +kernel, rfl⟩) ?_
    refine J_mask [false, false] ?_
    exact j_X12_has_14 (0 : Int32) g h0
  · refine J_iconst (1 : Int32) rfl (show Dc Y_X12_has 9 (.iconst 1) 1 10 from ⟨by decide +kernel, rfl⟩) ?_
    refine J_goto (tg := 14) (show Dc Y_X12_has 10 (.goto 4) 3 13 from ⟨by decide +kernel, rfl⟩) (by decide) ?_
    refine J_mask [false, false] ?_
    exact j_X12_has_14 (1 : Int32) g h0

theorem c_X12_has {l : Launch} {D : ZD} {B0 : Nat} (x0 : Int32) (x1 : Int32) (g : ZS) : ∀ r, f_X12_has x0 x1 = some r → zCt l D B0 yX12_has Y_X12_has [.int x0, .int x1] g (some (.int r)) g :=
  zCt_ofF (vo := fun r => some (.int r)) (so := fun _ => g) (by decide +kernel) rfl (fun h => by cases h) rfl (Nat.le_of_ble_eq_true rfl) (fun X => j_X12_has x0 x1 g (fun _ h => h))

theorem j_X11_worthOfFirst_43 {X : ZX} (N : Nat) (x2 : Int32)   (g : ZS) {K : Int32 → Prop} (h0 : ∀ v, K v → xK X (some (.int v)) g) : J Y_X11_worthOfFirst X 0 0 43 [none, none, some (.int x2), none] [] g (f_X11_worthOfFirst_43 N x2 g) K := by
  unfold f_X11_worthOfFirst_43
  refine J_iload_n rfl rfl (show Dc Y_X11_worthOfFirst 43 (.iload_n 2) 1 44 from ⟨by decide +kernel, rfl⟩) ?_
  exact J_reti (show Dc Y_X11_worthOfFirst 44 (.ireturn) 1 45 from ⟨by decide +kernel, rfl⟩) rfl (h0 _) (by decide) (by decide)

theorem j_X11_worthOfFirst_4 {X : ZX} (N : Nat) (x0 : Nat) (x1 : Int32) (x2 : Int32) (x3 : Int32)   (g : ZS) {K : ((Int32 × Int32) ⊕ Int32) → Prop} (h0 : ∀ v, K (.inr v) → xK X (some (.int v)) g) (hL4 : ∀ s, K (.inl s) → zG Y_X11_worthOfFirst X 0 0 4 [some (.ref x0), some (.int x1), some (.int s.1), some (.int s.2)] [] g) : J Y_X11_worthOfFirst X 0 0 4 [some (.ref x0), some (.int x1), some (.int x2), some (.int x3)] [] g (f_X11_worthOfFirst_4 N x0 x1 x2 x3 g) K := by
  unfold f_X11_worthOfFirst_4
  refine J_iload_n rfl rfl (show Dc Y_X11_worthOfFirst 4 (.iload_n 3) 1 5 from ⟨by decide +kernel, rfl⟩) ?_
  refine J_iload_n rfl rfl (show Dc Y_X11_worthOfFirst 5 (.iload_n 1) 1 6 from ⟨by decide +kernel, rfl⟩) ?_
  refine J_icmp_ge (tg := 43) (show Dc Y_X11_worthOfFirst 6 (.if_icmp .ge 37) 3 9 from ⟨by decide +kernel, rfl⟩) (by decide) (fun h => ?_) (fun h => ?_)
  · refine J_mask [false, false, true, false] ?_
    refine J_map (f := Sum.inr) (fun _ h => h) ?_
    exact j_X11_worthOfFirst_43 (K := fun o => K (.inr o)) N x2 g h0
  · refine J_iload_n rfl rfl (show Dc Y_X11_worthOfFirst 9 (.iload_n 3) 1 10 from ⟨by decide +kernel, rfl⟩) ?_
    refine J_aload_n rfl rfl (show Dc Y_X11_worthOfFirst 10 (.aload_n 0) 1 11 from ⟨by decide +kernel, rfl⟩) ?_
    refine J_getR (show Dc Y_X11_worthOfFirst 11 (.getfield 79) 3 14 from ⟨by decide +kernel, rfl⟩) w_f_RX11_79 rfl (fun v1 => ?_)
    refine J_getI (show Dc Y_X11_worthOfFirst 14 (.getfield 328) 3 17 from ⟨by decide +kernel, rfl⟩) w_f_RX11_328 rfl (fun v2 => ?_)
    refine J_icmp_ge (tg := 43) (show Dc Y_X11_worthOfFirst 17 (.if_icmp .ge 26) 3 20 from ⟨by decide +kernel, rfl⟩) (by decide) (fun h => ?_) (fun h => ?_)
    · refine J_mask [false, false, true, false] ?_
      refine J_map (f := Sum.inr) (fun _ h => h) ?_
      exact j_X11_worthOfFirst_43 (K := fun o => K (.inr o)) N x2 g h0
    · refine J_iload_n rfl rfl (show Dc Y_X11_worthOfFirst 20 (.iload_n 2) 1 21 from ⟨by decide +kernel, rfl⟩) ?_
      refine J_aload_n rfl rfl (show Dc Y_X11_worthOfFirst 21 (.aload_n 0) 1 22 from ⟨by decide +kernel, rfl⟩) ?_
      refine J_getR (show Dc Y_X11_worthOfFirst 22 (.getfield 30) 3 25 from ⟨by decide +kernel, rfl⟩) w_f_RX11_30 rfl (fun v3 => ?_)
      refine J_aload_n rfl rfl (show Dc Y_X11_worthOfFirst 25 (.aload_n 0) 1 26 from ⟨by decide +kernel, rfl⟩) ?_
      refine J_getR (show Dc Y_X11_worthOfFirst 26 (.getfield 79) 3 29 from ⟨by decide +kernel, rfl⟩) w_f_RX11_79 rfl (fun v4 => ?_)
      refine J_getR (show Dc Y_X11_worthOfFirst 29 (.getfield 329) 3 32 from ⟨by decide +kernel, rfl⟩) w_f_RX11_329 rfl (fun v5 => ?_)
      refine J_iload_n rfl rfl (show Dc Y_X11_worthOfFirst 32 (.iload_n 3) 1 33 from ⟨by decide +kernel, rfl⟩) ?_
      refine J_iald (show Dc Y_X11_worthOfFirst 33 (.iaload) 1 34 from ⟨by decide +kernel, rfl⟩) (fun v6 => ?_)
      refine J_iald (show Dc Y_X11_worthOfFirst 34 (.iaload) 1 35 from ⟨by decide +kernel, rfl⟩) (fun v7 => ?_)
      refine J_iadd (show Dc Y_X11_worthOfFirst 35 (.iadd) 1 36 from ⟨by decide +kernel, rfl⟩) ?_
      refine J_istore_n [some (.ref x0), some (.int x1), some (.int (x2 + v7)), some (.int x3)] (show Dc Y_X11_worthOfFirst 36 (.istore_n 2) 1 37 from ⟨by decide +kernel, rfl⟩) rfl (by decide) rfl rfl ?_
      refine J_iinc (1 : Int32) [some (.ref x0), some (.int x1), some (.int (x2 + v7)), some (.int (x3 + (1 : Int32)))] (show Dc Y_X11_worthOfFirst 37 (.iinc 3 1) 3 40 from ⟨by decide +kernel, rfl⟩) rfl rfl (by decide) rfl rfl ?_
      refine J_goto (tg := 4) (show Dc Y_X11_worthOfFirst 40 (.goto (-36)) 3 43 from ⟨by decide +kernel, rfl⟩) (by decide) ?_
      exact J_leaf (fun h => hL4 (x2 + v7, x3 + (1 : Int32)) h)

theorem j_X11_worthOfFirst {X : ZX} (N : Nat) (x0 : Nat) (x1 : Int32)   (g : ZS) {K : Int32 → Prop} (h0 : ∀ v, K v → xK X (some (.int v)) g) : J Y_X11_worthOfFirst X 0 0 0 [some (.ref x0), some (.int x1), none, none] [] g (f_X11_worthOfFirst N x0 x1 g) K := by
  unfold f_X11_worthOfFirst
  refine J_iconst (0 : Int32) rfl (show Dc Y_X11_worthOfFirst 0 (.iconst 0) 1 1 from ⟨by decide +kernel, rfl⟩) ?_
  refine J_istore_n [some (.ref x0), some (.int x1), some (.int (0 : Int32)), none] (show Dc Y_X11_worthOfFirst 1 (.istore_n 2) 1 2 from ⟨by decide +kernel, rfl⟩) rfl (by decide) rfl rfl ?_
  refine J_iconst (0 : Int32) rfl (show Dc Y_X11_worthOfFirst 2 (.iconst 0) 1 3 from ⟨by decide +kernel, rfl⟩) ?_
  refine J_istore_n [some (.ref x0), some (.int x1), some (.int (0 : Int32)), some (.int (0 : Int32))] (show Dc Y_X11_worthOfFirst 3 (.istore_n 3) 1 4 from ⟨by decide +kernel, rfl⟩) rfl (by decide) rfl rfl ?_
  exact J_loop (X := X) (K := K) (uc := fun _ => 0) (us := fun _ => 0) (lf := fun s => [some (.ref x0), some (.int x1), some (.int s.1), some (.int s.2)]) (gf := fun s => g) (fun s => j_X11_worthOfFirst_4 (K := zKl Y_X11_worthOfFirst X 4 (fun _ => 0) (fun _ => 0) (fun s => [some (.ref x0), some (.int x1), some (.int s.1), some (.int s.2)]) (fun s => g) K) N x0 x1 s.1 s.2 g h0 (fun s h => h)) N ((0 : Int32), (0 : Int32))

theorem c_X11_worthOfFirst {l : Launch} {D : ZD} {B0 : Nat} (N : Nat) (x0 : Nat) (x1 : Int32) (g : ZS) : ∀ r, f_X11_worthOfFirst N x0 x1 g = some r → zCt l D B0 yX11_worthOfFirst Y_X11_worthOfFirst [.ref x0, .int x1] g (some (.int r)) g :=
  zCt_ofF (vo := fun r => some (.int r)) (so := fun _ => g) (by decide +kernel) rfl (fun h => by cases h) rfl (Nat.le_of_ble_eq_true rfl) (fun X => j_X11_worthOfFirst N x0 x1 g (fun _ h => h))

theorem j_X11_gain_18 {X : ZX} (N : Nat)    (g : ZS) {K : (Int32 × ZS) → Prop} (h0 : ∀ v g, K (v, g) → xK X (some (.int v)) g) : J Y_X11_gain X 0 0 18 [none, none, none, none, none, none, none, none] [] g (f_X11_gain_18 N g) K := by
  unfold f_X11_gain_18
  refine J_iconst (-1 : Int32) rfl (show Dc Y_X11_gain 18 (.iconst (-1)) 1 19 from ⟨by decide +kernel, rfl⟩) ?_
  exact J_reti (show Dc Y_X11_gain 19 (.ireturn) 1 20 from ⟨by decide +kernel, rfl⟩) rfl (h0 _ _) (by decide) (by decide)

theorem j_X11_gain_99 {X : ZX} (N : Nat) (x0 : Nat) (x1 : Int32) (x2 : Int32) (x3 : Int32) (x4 : Int32) (x5 : Int32) (x6 : Int32)   (g : ZS) {K : ((Int32 × Int32 × Int32 × Int32 × ZS) ⊕ (Int32 × ZS)) → Prop} (h0 : ∀ v g, K (.inr (v, g)) → xK X (some (.int v)) g) (hL31 : ∀ s, K (.inl s) → zG Y_X11_gain X 0 0 31 [some (.ref x0), some (.int x1), some (.int x2), some (.int s.1), some (.int s.2.1), some (.int s.2.2.1), some (.int s.2.2.2.1), none] [] s.2.2.2.2) : J Y_X11_gain X 0 0 99 [some (.ref x0), some (.int x1), some (.int x2), some (.int x3), some (.int x4), some (.int x5), some (.int x6), none] [] g (f_X11_gain_99 N x0 x1 x2 x3 x4 x5 x6 g) K := by
  unfold f_X11_gain_99
  refine J_iinc (1 : Int32) [some (.ref x0), some (.int x1), some (.int x2), some (.int x3), some (.int x4), some (.int x5), some (.int (x6 + (1 : Int32))), none] (show Dc Y_X11_gain 99 (.iinc 6 1) 3 102 from ⟨by decide +kernel, rfl⟩) rfl rfl (by decide) rfl rfl ?_
  refine J_goto (tg := 31) (show Dc Y_X11_gain 102 (.goto (-71)) 3 105 from ⟨by decide +kernel, rfl⟩) (by decide) ?_
  exact J_leaf (fun h => hL31 (x3, x4, x5, x6 + (1 : Int32), g) h)

theorem j_X11_gain_84 {X : ZX} (N : Nat) (x0 : Nat) (x1 : Int32) (x2 : Int32) (x3 : Int32) (x4 : Int32) (x5 : Int32) (x6 : Int32) (x7 : Int32)   (g : ZS) {K : ((Int32 × Int32 × Int32 × Int32 × ZS) ⊕ (Int32 × ZS)) → Prop} (h0 : ∀ v g, K (.inr (v, g)) → xK X (some (.int v)) g) (hL31 : ∀ s, K (.inl s) → zG Y_X11_gain X 0 0 31 [some (.ref x0), some (.int x1), some (.int x2), some (.int s.1), some (.int s.2.1), some (.int s.2.2.1), some (.int s.2.2.2.1), none] [] s.2.2.2.2) : J Y_X11_gain X 0 0 84 [some (.ref x0), some (.int x1), some (.int x2), some (.int x3), some (.int x4), some (.int x5), some (.int x6), some (.int x7)] [] g (f_X11_gain_84 N x0 x1 x2 x3 x4 x5 x6 x7 g) K := by
  unfold f_X11_gain_84
  refine J_iload rfl (show Dc Y_X11_gain 84 (.iload 7) 2 86 from ⟨by decide +kernel, rfl⟩) ?_
  refine J_iload rfl (show Dc Y_X11_gain 86 (.iload 5) 2 88 from ⟨by decide +kernel, rfl⟩) ?_
  refine J_icmp_le (tg := 99) (show Dc Y_X11_gain 88 (.if_icmp .le 11) 3 91 from ⟨by decide +kernel, rfl⟩) (by decide) (fun h => ?_) (fun h => ?_)
  · refine J_mask [true, true, true, true, true, true, true, false] ?_
    exact j_X11_gain_99 N x0 x1 x2 x3 x4 x5 x6 g h0 hL31
  · refine J_iload rfl (show Dc Y_X11_gain 91 (.iload 7) 2 93 from ⟨by decide +kernel, rfl⟩) ?_
    refine J_istore [some (.ref x0), some (.int x1), some (.int x2), some (.int x3), some (.int x4), some (.int x7), some (.int x6), some (.int x7)] (show Dc Y_X11_gain 93 (.istore 5) 2 95 from ⟨by decide +kernel, rfl⟩) (by decide) rfl rfl ?_
    refine J_iload rfl (show Dc Y_X11_gain 95 (.iload 6) 2 97 from ⟨by decide +kernel, rfl⟩) ?_
    refine J_istore [some (.ref x0), some (.int x1), some (.int x2), some (.int x3), some (.int x6), some (.int x7), some (.int x6), some (.int x7)] (show Dc Y_X11_gain 97 (.istore 4) 2 99 from ⟨by decide +kernel, rfl⟩) (by decide) rfl rfl ?_
    refine J_mask [true, true, true, true, true, true, true, false] ?_
    exact j_X11_gain_99 N x0 x1 x2 x3 x6 x7 x6 g h0 hL31

theorem j_X11_gain_31 {X : ZX} (N : Nat) (x0 : Nat) (x1 : Int32) (x2 : Int32) (x3 : Int32) (x4 : Int32) (x5 : Int32) (x6 : Int32)   (g : ZS) {K : ((Int32 × Int32 × Int32 × Int32 × ZS) ⊕ (Int32 × ZS)) → Prop} (h0 : ∀ v g, K (.inr (v, g)) → xK X (some (.int v)) g) (hL31 : ∀ s, K (.inl s) → zG Y_X11_gain X 0 0 31 [some (.ref x0), some (.int x1), some (.int x2), some (.int s.1), some (.int s.2.1), some (.int s.2.2.1), some (.int s.2.2.2.1), none] [] s.2.2.2.2) : J Y_X11_gain X 0 0 31 [some (.ref x0), some (.int x1), some (.int x2), some (.int x3), some (.int x4), some (.int x5), some (.int x6), none] [] g (f_X11_gain_31 N x0 x1 x2 x3 x4 x5 x6 g) K := by
  unfold f_X11_gain_31
  refine J_iload rfl (show Dc Y_X11_gain 31 (.iload 6) 2 33 from ⟨by decide +kernel, rfl⟩) ?_
  refine J_aload_n rfl rfl (show Dc Y_X11_gain 33 (.aload_n 0) 1 34 from ⟨by decide +kernel, rfl⟩) ?_
  refine J_getR (show Dc Y_X11_gain 34 (.getfield 47) 3 37 from ⟨by decide +kernel, rfl⟩) w_f_RX11_47 rfl (fun v1 => ?_)
  refine J_getI (show Dc Y_X11_gain 37 (.getfield 146) 3 40 from ⟨by decide +kernel, rfl⟩) w_f_RX11_146 rfl (fun v2 => ?_)
  refine J_icmp_ge (tg := 105) (show Dc Y_X11_gain 40 (.if_icmp .ge 65) 3 43 from ⟨by decide +kernel, rfl⟩) (by decide) (fun h => ?_) (fun h => ?_)
  · refine J_map (f := Sum.inr) (fun _ h => h) ?_
    refine J_aload_n rfl rfl (show Dc Y_X11_gain 105 (.aload_n 0) 1 106 from ⟨by decide +kernel, rfl⟩) ?_
    refine J_getR (show Dc Y_X11_gain 106 (.getfield 19) 3 109 from ⟨by decide +kernel, rfl⟩) w_f_RX11_19 rfl (fun v3 => ?_)
    refine J_iload rfl (show Dc Y_X11_gain 109 (.iload 4) 2 111 from ⟨by decide +kernel, rfl⟩) ?_
    refine J_i2l (show Dc Y_X11_gain 111 (.i2l) 1 112 from ⟨by decide +kernel, rfl⟩) ?_
    refine J_iload rfl (show Dc Y_X11_gain 112 (.iload 5) 2 114 from ⟨by decide +kernel, rfl⟩) ?_
    refine J_i2l (show Dc Y_X11_gain 114 (.i2l) 1 115 from ⟨by decide +kernel, rfl⟩) ?_
    refine J_callVv (fun r => r) (show Dc Y_X11_gain 115 (.invokevirtual 317) 3 118 from ⟨by decide +kernel, rfl⟩) w_m_RX11_317 w_in_X9_pair rfl w_se_X9_pair w_cw_X9_pair (c_X9_pair v3 x4.toInt64 x5.toInt64 g) rfl rfl (by decide) (Nat.le_of_ble_eq_true rfl) (by decide) (by decide) (fun g4 => ?_)
    refine J_iload_n rfl rfl (show Dc Y_X11_gain 118 (.iload_n 3) 1 119 from ⟨by decide +kernel, rfl⟩) ?_
    exact J_reti (show Dc Y_X11_gain 119 (.ireturn) 1 120 from ⟨by decide +kernel, rfl⟩) rfl (h0 _ _) (by decide) (by decide)
  · refine J_aload_n rfl rfl (show Dc Y_X11_gain 43 (.aload_n 0) 1 44 from ⟨by decide +kernel, rfl⟩) ?_
    refine J_getR (show Dc Y_X11_gain 44 (.getfield 79) 3 47 from ⟨by decide +kernel, rfl⟩) w_f_RX11_79 rfl (fun v5 => ?_)
    refine J_aload_n rfl rfl (show Dc Y_X11_gain 47 (.aload_n 0) 1 48 from ⟨by decide +kernel, rfl⟩) ?_
    refine J_getR (show Dc Y_X11_gain 48 (.getfield 47) 3 51 from ⟨by decide +kernel, rfl⟩) w_f_RX11_47 rfl (fun v6 => ?_)
    refine J_getR (show Dc Y_X11_gain 51 (.getfield 171) 3 54 from ⟨by decide +kernel, rfl⟩) w_f_RX11_171 rfl (fun v7 => ?_)
    refine J_iload rfl (show Dc Y_X11_gain 54 (.iload 6) 2 56 from ⟨by decide +kernel, rfl⟩) ?_
    refine J_aald (kd := 25) (by decide) (by decide) (show Dc Y_X11_gain 56 (.aaload) 1 57 from ⟨by decide +kernel, rfl⟩) (fun v8 => ?_)
    refine J_aload_n rfl rfl (show Dc Y_X11_gain 57 (.aload_n 0) 1 58 from ⟨by decide +kernel, rfl⟩) ?_
    refine J_getR (show Dc Y_X11_gain 58 (.getfield 37) 3 61 from ⟨by decide +kernel, rfl⟩) w_f_RX11_37 rfl (fun v9 => ?_)
    refine J_aload_n rfl rfl (show Dc Y_X11_gain 61 (.aload_n 0) 1 62 from ⟨by decide +kernel, rfl⟩) ?_
    refine J_getR (show Dc Y_X11_gain 62 (.getfield 30) 3 65 from ⟨by decide +kernel, rfl⟩) w_f_RX11_30 rfl (fun v10 => ?_)
    refine J_callVv (fun r => r) (show Dc Y_X11_gain 65 (.invokevirtual 289) 3 68 from ⟨by decide +kernel, rfl⟩) w_m_RX11_289 w_in_X10_follow rfl w_se_X10_follow w_cw_X10_follow (c_X10_follow N v5 v8 v9 v10 g) rfl rfl (by decide) (Nat.le_of_ble_eq_true rfl) (by decide) (by decide) (fun g11 => ?_)
    refine J_aload_n rfl rfl (show Dc Y_X11_gain 68 (.aload_n 0) 1 69 from ⟨by decide +kernel, rfl⟩) ?_
    refine J_iload_n rfl rfl (show Dc Y_X11_gain 69 (.iload_n 2) 1 70 from ⟨by decide +kernel, rfl⟩) ?_
    refine J_callVi (fun r => r) (fun _ => g11) (show Dc Y_X11_gain 70 (.invokevirtual 355) 3 73 from ⟨by decide +kernel, rfl⟩) w_m_RX11_355 w_in_X11_worthOfFirst rfl w_se_X11_worthOfFirst w_cw_X11_worthOfFirst (c_X11_worthOfFirst N x0 x2 g11) rfl rfl (by decide) (Nat.le_of_ble_eq_true rfl) (by decide) (by decide) (fun v12 => ?_)
    refine J_istore [some (.ref x0), some (.int x1), some (.int x2), some (.int x3), some (.int x4), some (.int x5), some (.int x6), some (.int v12)] (show Dc Y_X11_gain 73 (.istore 7) 2 75 from ⟨by decide +kernel, rfl⟩) (by decide) rfl rfl ?_
    refine J_iload rfl (show Dc Y_X11_gain 75 (.iload 6) 2 77 from ⟨by decide +kernel, rfl⟩) ?_
    refine J_iload_n rfl rfl (show Dc Y_X11_gain 77 (.iload_n 1) 1 78 from ⟨by decide +kernel, rfl⟩) ?_
    refine J_icmp_ne (tg := 84) (show Dc Y_X11_gain 78 (.if_icmp .ne 6) 3 81 from ⟨by decide +kernel, rfl⟩) (by decide) (fun h => ?_) (fun h => ?_)
    · exact j_X11_gain_84 N x0 x1 x2 x3 x4 x5 x6 v12 g11 h0 hL31
    · refine J_iload rfl (show Dc Y_X11_gain 81 (.iload 7) 2 83 from ⟨by decide +kernel, rfl⟩) ?_
      refine J_istore_n [some (.ref x0), some (.int x1), some (.int x2), some (.int v12), some (.int x4), some (.int x5), some (.int x6), some (.int v12)] (show Dc Y_X11_gain 83 (.istore_n 3) 1 84 from ⟨by decide +kernel, rfl⟩) rfl (by decide) rfl rfl ?_
      exact j_X11_gain_84 N x0 x1 x2 v12 x4 x5 x6 v12 g11 h0 hL31

theorem j_X11_gain {X : ZX} (N : Nat) (x0 : Nat) (x1 : Int32) (x2 : Int32)   (g : ZS) {K : (Int32 × ZS) → Prop} (h0 : ∀ v g, K (v, g) → xK X (some (.int v)) g) : J Y_X11_gain X 0 0 0 [some (.ref x0), some (.int x1), some (.int x2), none, none, none, none, none] [] g (f_X11_gain N x0 x1 x2 g) K := by
  unfold f_X11_gain
  refine J_aload_n rfl rfl (show Dc Y_X11_gain 0 (.aload_n 0) 1 1 from ⟨by decide +kernel, rfl⟩) ?_
  refine J_iload_n rfl rfl (show Dc Y_X11_gain 1 (.iload_n 1) 1 2 from ⟨by decide +kernel, rfl⟩) ?_
  refine J_callVi (fun r => r) (fun _ => g) (show Dc Y_X11_gain 2 (.invokevirtual 161) 3 5 from ⟨by decide +kernel, rfl⟩) w_m_RX11_161 w_in_X11_isParrot rfl w_se_X11_isParrot w_cw_X11_isParrot (c_X11_isParrot x0 x1 g) rfl rfl (by decide) (Nat.le_of_ble_eq_true rfl) (by decide) (by decide) (fun v1 => ?_)
  refine J_if_eq (tg := 18) (show Dc Y_X11_gain 5 (.ifCond .eq 13) 3 8 from ⟨by decide +kernel, rfl⟩) (by decide) (fun h => ?_) (fun h => ?_)
  · refine J_mask [false, false, false, false, false, false, false, false] ?_
    exact j_X11_gain_18 N g h0
  · refine J_iload_n rfl rfl (show Dc Y_X11_gain 8 (.iload_n 2) 1 9 from ⟨by decide +kernel, rfl⟩) ?_
    refine J_if_lt (tg := 18) (show Dc Y_X11_gain 9 (.ifCond .lt 9) 3 12 from ⟨by decide +kernel, rfl⟩) (by decide) (fun h => ?_) (fun h => ?_)
    · refine J_mask [false, false, false, false, false, false, false, false] ?_
      exact j_X11_gain_18 N g h0
    · refine J_iload_n rfl rfl (show Dc Y_X11_gain 12 (.iload_n 2) 1 13 from ⟨by decide +kernel, rfl⟩) ?_
      refine J_bipush (8 : Int32) rfl (show Dc Y_X11_gain 13 (.bipush 8) 2 15 from ⟨by decide +kernel, rfl⟩) ?_
      refine J_icmp_le (tg := 20) (show Dc Y_X11_gain 15 (.if_icmp .le 5) 3 18 from ⟨by decide +kernel, rfl⟩) (by decide) (fun h => ?_) (fun h => ?_)
      · refine J_iconst (0 : Int32) rfl (show Dc Y_X11_gain 20 (.iconst 0) 1 21 from ⟨by decide +kernel, rfl⟩) ?_
        refine J_istore_n [some (.ref x0), some (.int x1), some (.int x2), some (.int (0 : Int32)), none, none, none, none] (show Dc Y_X11_gain 21 (.istore_n 3) 1 22 from ⟨by decide +kernel, rfl⟩) rfl (by decide) rfl rfl ?_
        refine J_iconst (-1 : Int32) rfl (show Dc Y_X11_gain 22 (.iconst (-1)) 1 23 from ⟨by decide +kernel, rfl⟩) ?_
        refine J_istore [some (.ref x0), some (.int x1), some (.int x2), some (.int (0 : Int32)), some (.int (-1 : Int32)), none, none, none] (show Dc Y_X11_gain 23 (.istore 4) 2 25 from ⟨by decide +kernel, rfl⟩) (by decide) rfl rfl ?_
        refine J_iconst (-1 : Int32) rfl (show Dc Y_X11_gain 25 (.iconst (-1)) 1 26 from ⟨by decide +kernel, rfl⟩) ?_
        refine J_istore [some (.ref x0), some (.int x1), some (.int x2), some (.int (0 : Int32)), some (.int (-1 : Int32)), some (.int (-1 : Int32)), none, none] (show Dc Y_X11_gain 26 (.istore 5) 2 28 from ⟨by decide +kernel, rfl⟩) (by decide) rfl rfl ?_
        refine J_iconst (0 : Int32) rfl (show Dc Y_X11_gain 28 (.iconst 0) 1 29 from ⟨by decide +kernel, rfl⟩) ?_
        refine J_istore [some (.ref x0), some (.int x1), some (.int x2), some (.int (0 : Int32)), some (.int (-1 : Int32)), some (.int (-1 : Int32)), some (.int (0 : Int32)), none] (show Dc Y_X11_gain 29 (.istore 6) 2 31 from ⟨by decide +kernel, rfl⟩) (by decide) rfl rfl ?_
        exact J_loop (X := X) (K := K) (uc := fun _ => 0) (us := fun _ => 0) (lf := fun s => [some (.ref x0), some (.int x1), some (.int x2), some (.int s.1), some (.int s.2.1), some (.int s.2.2.1), some (.int s.2.2.2.1), none]) (gf := fun s => s.2.2.2.2) (fun s => j_X11_gain_31 (K := zKl Y_X11_gain X 31 (fun _ => 0) (fun _ => 0) (fun s => [some (.ref x0), some (.int x1), some (.int x2), some (.int s.1), some (.int s.2.1), some (.int s.2.2.1), some (.int s.2.2.2.1), none]) (fun s => s.2.2.2.2) K) N x0 x1 x2 s.1 s.2.1 s.2.2.1 s.2.2.2.1 s.2.2.2.2 h0 (fun s h => h)) N ((0 : Int32), (-1 : Int32), (-1 : Int32), (0 : Int32), g)
      · refine J_mask [false, false, false, false, false, false, false, false] ?_
        exact j_X11_gain_18 N g h0

theorem c_X11_gain {l : Launch} {D : ZD} {B0 : Nat} (N : Nat) (x0 : Nat) (x1 : Int32) (x2 : Int32) (g : ZS) : ∀ r, f_X11_gain N x0 x1 x2 g = some r → zCt l D B0 yX11_gain Y_X11_gain [.ref x0, .int x1, .int x2] g (some (.int r.1)) r.2 :=
  zCt_ofF (vo := fun r => some (.int r.1)) (so := fun r => r.2) (by decide +kernel) rfl (fun h => by cases h) rfl (Nat.le_of_ble_eq_true rfl) (fun X => j_X11_gain N x0 x1 x2 g (fun _ _ h => h))

theorem j_X2_isSaidAt_27 {X : ZX}  (s0 : Int32)  (g : ZS) {K : Int32 → Prop} (h0 : ∀ v, K v → xK X (some (.int v)) g) : J Y_X2_isSaidAt X 0 0 27 [none, none, none, none] [.int s0] g (f_X2_isSaidAt_27 s0 g) K := by
  unfold f_X2_isSaidAt_27
  exact J_retZ (show Dc Y_X2_isSaidAt 27 (.ireturn) 1 28 from ⟨by decide +kernel, rfl⟩) rfl (h0 _) (by decide) (by decide)

theorem j_X2_isSaidAt_26 {X : ZX}    (g : ZS) {K : Int32 → Prop} (h0 : ∀ v, K v → xK X (some (.int v)) g) : J Y_X2_isSaidAt X 0 0 26 [none, none, none, none] [] g (f_X2_isSaidAt_26 g) K := by
  unfold f_X2_isSaidAt_26
  refine J_iconst (0 : Int32) rfl (show Dc Y_X2_isSaidAt 26 (.iconst 0) 1 27 from ⟨by decide +kernel, rfl⟩) ?_
  exact j_X2_isSaidAt_27 (0 : Int32) g h0

theorem j_X2_isSaidAt {X : ZX} (x0 : Nat) (x1 : Int32) (x2 : Int32) (x3 : Int32)   (g : ZS) {K : Int32 → Prop} (h0 : ∀ v, K v → xK X (some (.int v)) g) : J Y_X2_isSaidAt X 0 0 0 [some (.ref x0), some (.int x1), some (.int x2), some (.int x3)] [] g (f_X2_isSaidAt x0 x1 x2 x3 g) K := by
  unfold f_X2_isSaidAt
  refine J_iload_n rfl rfl (show Dc Y_X2_isSaidAt 0 (.iload_n 2) 1 1 from ⟨by decide +kernel, rfl⟩) ?_
  refine J_aload_n rfl rfl (show Dc Y_X2_isSaidAt 1 (.aload_n 0) 1 2 from ⟨by decide +kernel, rfl⟩) ?_
  refine J_getR (show Dc Y_X2_isSaidAt 2 (.getfield 16) 3 5 from ⟨by decide +kernel, rfl⟩) w_f_RX2_16 rfl (fun v1 => ?_)
  refine J_iload_n rfl rfl (show Dc Y_X2_isSaidAt 5 (.iload_n 1) 1 6 from ⟨by decide +kernel, rfl⟩) ?_
  refine J_iald (show Dc Y_X2_isSaidAt 6 (.iaload) 1 7 from ⟨by decide +kernel, rfl⟩) (fun v2 => ?_)
  refine J_icmp_ge (tg := 26) (show Dc Y_X2_isSaidAt 7 (.if_icmp .ge 19) 3 10 from ⟨by decide +kernel, rfl⟩) (by decide) (fun h => ?_) (fun h => ?_)
  · refine J_mask [false, false, false, false] ?_
    exact j_X2_isSaidAt_26 g h0
  · refine J_aload_n rfl rfl (show Dc Y_X2_isSaidAt 10 (.aload_n 0) 1 11 from ⟨by decide +kernel, rfl⟩) ?_
    refine J_getR (show Dc Y_X2_isSaidAt 11 (.getfield 11) 3 14 from ⟨by decide +kernel, rfl⟩) w_f_RX2_11 rfl (fun v3 => ?_)
    refine J_iload_n rfl rfl (show Dc Y_X2_isSaidAt 14 (.iload_n 1) 1 15 from ⟨by decide +kernel, rfl⟩) ?_
    refine J_aald (kd := 27) (by decide) (by decide) (show Dc Y_X2_isSaidAt 15 (.aaload) 1 16 from ⟨by decide +kernel, rfl⟩) (fun v4 => ?_)
    refine J_iload_n rfl rfl (show Dc Y_X2_isSaidAt 16 (.iload_n 2) 1 17 from ⟨by decide +kernel, rfl⟩) ?_
    refine J_iald (show Dc Y_X2_isSaidAt 17 (.iaload) 1 18 from ⟨by decide +kernel, rfl⟩) (fun v5 => ?_)
    refine J_iload_n rfl rfl (show Dc Y_X2_isSaidAt 18 (.iload_n 3) 1 19 from ⟨by decide +kernel, rfl⟩) ?_
    refine J_icmp_ne (tg := 26) (show Dc Y_X2_isSaidAt 19 (.if_icmp .ne 7) 3 22 from ⟨by decide +kernel, rfl⟩) (by decide) (fun h => ?_) (fun h => ?_)
    · refine J_mask [false, false, false, false] ?_
      exact j_X2_isSaidAt_26 g h0
    · refine J_iconst (1 : Int32) rfl (show Dc Y_X2_isSaidAt 22 (.iconst 1) 1 23 from ⟨by decide +kernel, rfl⟩) ?_
      refine J_goto (tg := 27) (show Dc Y_X2_isSaidAt 23 (.goto 4) 3 26 from ⟨by decide +kernel, rfl⟩) (by decide) ?_
      refine J_mask [false, false, false, false] ?_
      exact j_X2_isSaidAt_27 (1 : Int32) g h0

theorem c_X2_isSaidAt {l : Launch} {D : ZD} {B0 : Nat} (x0 : Nat) (x1 : Int32) (x2 : Int32) (x3 : Int32) (g : ZS) : ∀ r, f_X2_isSaidAt x0 x1 x2 x3 g = some r → zCt l D B0 yX2_isSaidAt Y_X2_isSaidAt [.ref x0, .int x1, .int x2, .int x3] g (some (.int r)) g :=
  zCt_ofF (vo := fun r => some (.int r)) (so := fun _ => g) (by decide +kernel) rfl (fun h => by cases h) rfl (Nat.le_of_ble_eq_true rfl) (fun X => j_X2_isSaidAt x0 x1 x2 x3 g (fun _ h => h))

theorem j_X11_lowestOf_2 {X : ZX} (N : Nat) (x0 : Int32) (x1 : Int32)   (g : ZS) {K : ((Int32) ⊕ Int32) → Prop} (h0 : ∀ v, K (.inr v) → xK X (some (.int v)) g) (hL2 : ∀ s, K (.inl s) → zG Y_X11_lowestOf X 0 0 2 [some (.int x0), some (.int s)] [] g) : J Y_X11_lowestOf X 0 0 2 [some (.int x0), some (.int x1)] [] g (f_X11_lowestOf_2 N x0 x1) K := by
  unfold f_X11_lowestOf_2
  refine J_iload_n rfl rfl (show Dc Y_X11_lowestOf 2 (.iload_n 1) 1 3 from ⟨by decide +kernel, rfl⟩) ?_
  refine J_bipush (32 : Int32) rfl (show Dc Y_X11_lowestOf 3 (.bipush 32) 2 5 from ⟨by decide +kernel, rfl⟩) ?_
  refine J_icmp_ge (tg := 24) (show Dc Y_X11_lowestOf 5 (.if_icmp .ge 19) 3 8 from ⟨by decide +kernel, rfl⟩) (by decide) (fun h => ?_) (fun h => ?_)
  · refine J_map (f := Sum.inr) (fun _ h => h) ?_
    refine J_iconst (-1 : Int32) rfl (show Dc Y_X11_lowestOf 24 (.iconst (-1)) 1 25 from ⟨by decide +kernel, rfl⟩) ?_
    exact J_reti (show Dc Y_X11_lowestOf 25 (.ireturn) 1 26 from ⟨by decide +kernel, rfl⟩) rfl (h0 _) (by decide) (by decide)
  · refine J_iload_n rfl rfl (show Dc Y_X11_lowestOf 8 (.iload_n 0) 1 9 from ⟨by decide +kernel, rfl⟩) ?_
    refine J_iload_n rfl rfl (show Dc Y_X11_lowestOf 9 (.iload_n 1) 1 10 from ⟨by decide +kernel, rfl⟩) ?_
    refine J_ishr (show Dc Y_X11_lowestOf 10 (.ishr) 1 11 from ⟨by decide +kernel, rfl⟩) ?_
    refine J_iconst (1 : Int32) rfl (show Dc Y_X11_lowestOf 11 (.iconst 1) 1 12 from ⟨by decide +kernel, rfl⟩) ?_
    refine J_iand (show Dc Y_X11_lowestOf 12 (.iand) 1 13 from ⟨by decide +kernel, rfl⟩) ?_
    refine J_if_eq (tg := 18) (show Dc Y_X11_lowestOf 13 (.ifCond .eq 5) 3 16 from ⟨by decide +kernel, rfl⟩) (by decide) (fun h => ?_) (fun h => ?_)
    · refine J_iinc (1 : Int32) [some (.int x0), some (.int (x1 + (1 : Int32)))] (show Dc Y_X11_lowestOf 18 (.iinc 1 1) 3 21 from ⟨by decide +kernel, rfl⟩) rfl rfl (by decide) rfl rfl ?_
      refine J_goto (tg := 2) (show Dc Y_X11_lowestOf 21 (.goto (-19)) 3 24 from ⟨by decide +kernel, rfl⟩) (by decide) ?_
      exact J_leaf (fun h => hL2 (x1 + (1 : Int32)) h)
    · refine J_map (f := Sum.inr) (fun _ h => h) ?_
      refine J_iload_n rfl rfl (show Dc Y_X11_lowestOf 16 (.iload_n 1) 1 17 from ⟨by decide +kernel, rfl⟩) ?_
      exact J_reti (show Dc Y_X11_lowestOf 17 (.ireturn) 1 18 from ⟨by decide +kernel, rfl⟩) rfl (h0 _) (by decide) (by decide)

theorem j_X11_lowestOf {X : ZX} (N : Nat) (x0 : Int32)   (g : ZS) {K : Int32 → Prop} (h0 : ∀ v, K v → xK X (some (.int v)) g) : J Y_X11_lowestOf X 0 0 0 [some (.int x0), none] [] g (f_X11_lowestOf N x0) K := by
  unfold f_X11_lowestOf
  refine J_iconst (0 : Int32) rfl (show Dc Y_X11_lowestOf 0 (.iconst 0) 1 1 from ⟨by decide +kernel, rfl⟩) ?_
  refine J_istore_n [some (.int x0), some (.int (0 : Int32))] (show Dc Y_X11_lowestOf 1 (.istore_n 1) 1 2 from ⟨by decide +kernel, rfl⟩) rfl (by decide) rfl rfl ?_
  exact J_loop (X := X) (K := K) (uc := fun _ => 0) (us := fun _ => 0) (lf := fun s => [some (.int x0), some (.int s)]) (gf := fun s => g) (fun s => j_X11_lowestOf_2 (K := zKl Y_X11_lowestOf X 2 (fun _ => 0) (fun _ => 0) (fun s => [some (.int x0), some (.int s)]) (fun s => g) K) N x0 s g h0 (fun s h => h)) N (0 : Int32)

theorem c_X11_lowestOf {l : Launch} {D : ZD} {B0 : Nat} (N : Nat) (x0 : Int32) (g : ZS) : ∀ r, f_X11_lowestOf N x0 = some r → zCt l D B0 yX11_lowestOf Y_X11_lowestOf [.int x0] g (some (.int r)) g :=
  zCt_ofF (vo := fun r => some (.int r)) (so := fun _ => g) (by decide +kernel) rfl (fun h => by cases h) rfl (Nat.le_of_ble_eq_true rfl) (fun X => j_X11_lowestOf N x0 g (fun _ h => h))

theorem j_X2_fewestOfFirst_99 {X : ZX} (N : Nat) (x0 : Nat) (x1 : Int32) (x2 : Int32) (x3 : Nat) (x4 : Int32) (x5 : Int32) (x6 : Int32) (x7 : Int32) (x8 : Int32)   (g : ZS) {K : ((Int32 × Int32) ⊕ ((Int32 × Int32) ⊕ Int32)) → Prop} (h0 : ∀ v, K (.inr (.inr v)) → xK X (some (.int v)) g) (hL6 : ∀ s, K (.inr (.inl s)) → zG Y_X2_fewestOfFirst X 0 0 6 [some (.ref x0), some (.int x1), some (.int x2), some (.ref x3), some (.int s.1), some (.int s.2), none, none, none] [] g) (hL29 : ∀ s, K (.inl s) → zG Y_X2_fewestOfFirst X 0 0 29 [some (.ref x0), some (.int x1), some (.int x2), some (.ref x3), some (.int x4), some (.int x5), some (.int x6), some (.int s.1), some (.int s.2)] [] g) : J Y_X2_fewestOfFirst X 0 0 99 [some (.ref x0), some (.int x1), some (.int x2), some (.ref x3), some (.int x4), some (.int x5), some (.int x6), some (.int x7), some (.int x8)] [] g (f_X2_fewestOfFirst_99 N x0 x1 x2 x3 x4 x5 x6 x7 x8 g) K := by
  unfold f_X2_fewestOfFirst_99
  refine J_iinc (1 : Int32) [some (.ref x0), some (.int x1), some (.int x2), some (.ref x3), some (.int x4), some (.int x5), some (.int x6), some (.int x7), some (.int (x8 + (1 : Int32)))] (show Dc Y_X2_fewestOfFirst 99 (.iinc 8 1) 3 102 from ⟨by decide +kernel, rfl⟩) rfl rfl (by decide) rfl rfl ?_
  refine J_goto (tg := 29) (show Dc Y_X2_fewestOfFirst 102 (.goto (-73)) 3 105 from ⟨by decide +kernel, rfl⟩) (by decide) ?_
  exact J_leaf (fun h => hL29 (x7, x8 + (1 : Int32)) h)

theorem j_X2_fewestOfFirst_96 {X : ZX} (N : Nat) (x0 : Nat) (x1 : Int32) (x2 : Int32) (x3 : Nat) (x4 : Int32) (x5 : Int32) (x6 : Int32) (x8 : Int32) (s0 : Int32) (s1 : Int32)  (g : ZS) {K : ((Int32 × Int32) ⊕ ((Int32 × Int32) ⊕ Int32)) → Prop} (h0 : ∀ v, K (.inr (.inr v)) → xK X (some (.int v)) g) (hL6 : ∀ s, K (.inr (.inl s)) → zG Y_X2_fewestOfFirst X 0 0 6 [some (.ref x0), some (.int x1), some (.int x2), some (.ref x3), some (.int s.1), some (.int s.2), none, none, none] [] g) (hL29 : ∀ s, K (.inl s) → zG Y_X2_fewestOfFirst X 0 0 29 [some (.ref x0), some (.int x1), some (.int x2), some (.ref x3), some (.int x4), some (.int x5), some (.int x6), some (.int s.1), some (.int s.2)] [] g) : J Y_X2_fewestOfFirst X 0 0 96 [some (.ref x0), some (.int x1), some (.int x2), some (.ref x3), some (.int x4), some (.int x5), some (.int x6), none, some (.int x8)] [.int s1, .int s0] g (f_X2_fewestOfFirst_96 N x0 x1 x2 x3 x4 x5 x6 x8 s0 s1 g) K := by
  unfold f_X2_fewestOfFirst_96
  refine J_ior (show Dc Y_X2_fewestOfFirst 96 (.ior) 1 97 from ⟨by decide +kernel, rfl⟩) ?_
  refine J_istore [some (.ref x0), some (.int x1), some (.int x2), some (.ref x3), some (.int x4), some (.int x5), some (.int x6), some (.int (s0 ||| s1)), some (.int x8)] (show Dc Y_X2_fewestOfFirst 97 (.istore 7) 2 99 from ⟨by decide +kernel, rfl⟩) (by decide) rfl rfl ?_
  exact j_X2_fewestOfFirst_99 N x0 x1 x2 x3 x4 x5 x6 (s0 ||| s1) x8 g h0 hL6 hL29

theorem j_X2_fewestOfFirst_68 {X : ZX} (N : Nat) (x0 : Nat) (x1 : Int32) (x2 : Int32) (x3 : Nat) (x4 : Int32) (x5 : Int32) (x6 : Int32) (x8 : Int32) (s0 : Int32) (s1 : Int32)  (g : ZS) {K : ((Int32 × Int32) ⊕ ((Int32 × Int32) ⊕ Int32)) → Prop} (h0 : ∀ v, K (.inr (.inr v)) → xK X (some (.int v)) g) (hL6 : ∀ s, K (.inr (.inl s)) → zG Y_X2_fewestOfFirst X 0 0 6 [some (.ref x0), some (.int x1), some (.int x2), some (.ref x3), some (.int s.1), some (.int s.2), none, none, none] [] g) (hL29 : ∀ s, K (.inl s) → zG Y_X2_fewestOfFirst X 0 0 29 [some (.ref x0), some (.int x1), some (.int x2), some (.ref x3), some (.int x4), some (.int x5), some (.int x6), some (.int s.1), some (.int s.2)] [] g) : J Y_X2_fewestOfFirst X 0 0 68 [some (.ref x0), some (.int x1), some (.int x2), some (.ref x3), some (.int x4), some (.int x5), some (.int x6), none, some (.int x8)] [.int s1, .int s0] g (f_X2_fewestOfFirst_68 N x0 x1 x2 x3 x4 x5 x6 x8 s0 s1 g) K := by
  unfold f_X2_fewestOfFirst_68
  refine J_ior (show Dc Y_X2_fewestOfFirst 68 (.ior) 1 69 from ⟨by decide +kernel, rfl⟩) ?_
  refine J_istore [some (.ref x0), some (.int x1), some (.int x2), some (.ref x3), some (.int x4), some (.int x5), some (.int x6), some (.int (s0 ||| s1)), some (.int x8)] (show Dc Y_X2_fewestOfFirst 69 (.istore 7) 2 71 from ⟨by decide +kernel, rfl⟩) (by decide) rfl rfl ?_
  refine J_iload rfl (show Dc Y_X2_fewestOfFirst 71 (.iload 7) 2 73 from ⟨by decide +kernel, rfl⟩) ?_
  refine J_aload_n rfl rfl (show Dc Y_X2_fewestOfFirst 73 (.aload_n 0) 1 74 from ⟨by decide +kernel, rfl⟩) ?_
  refine J_iload_n rfl rfl (show Dc Y_X2_fewestOfFirst 74 (.iload_n 2) 1 75 from ⟨by decide +kernel, rfl⟩) ?_
  refine J_iload rfl (show Dc Y_X2_fewestOfFirst 75 (.iload 5) 2 77 from ⟨by decide +kernel, rfl⟩) ?_
  refine J_iload rfl (show Dc Y_X2_fewestOfFirst 77 (.iload 8) 2 79 from ⟨by decide +kernel, rfl⟩) ?_
  refine J_isub (show Dc Y_X2_fewestOfFirst 79 (.isub) 1 80 from ⟨by decide +kernel, rfl⟩) ?_
  refine J_iload rfl (show Dc Y_X2_fewestOfFirst 80 (.iload 6) 2 82 from ⟨by decide +kernel, rfl⟩) ?_
  refine J_callVi (fun r => r) (fun _ => g) (show Dc Y_X2_fewestOfFirst 82 (.invokevirtual 36) 3 85 from ⟨by decide +kernel, rfl⟩) w_m_RX2_36 w_in_X2_isSaidAt rfl w_se_X2_isSaidAt w_cw_X2_isSaidAt (c_X2_isSaidAt x0 x2 (x5 - x8) x6 g) rfl rfl (by decide) (Nat.le_of_ble_eq_true rfl) (by decide) (by decide) (fun v1 => ?_)
  refine J_if_eq (tg := 95) (show Dc Y_X2_fewestOfFirst 85 (.ifCond .eq 10) 3 88 from ⟨by decide +kernel, rfl⟩) (by decide) (fun h => ?_) (fun h => ?_)
  · refine J_iconst (0 : Int32) rfl (show Dc Y_X2_fewestOfFirst 95 (.iconst 0) 1 96 from ⟨by decide +kernel, rfl⟩) ?_
    refine J_mask [true, true, true, true, true, true, true, false, true] ?_
    exact j_X2_fewestOfFirst_96 N x0 x1 x2 x3 x4 x5 x6 x8 (s0 ||| s1) (0 : Int32) g h0 hL6 hL29
  · refine J_iconst (1 : Int32) rfl (show Dc Y_X2_fewestOfFirst 88 (.iconst 1) 1 89 from ⟨by decide +kernel, rfl⟩) ?_
    refine J_iload rfl (show Dc Y_X2_fewestOfFirst 89 (.iload 8) 2 91 from ⟨by decide +kernel, rfl⟩) ?_
    refine J_ishl (show Dc Y_X2_fewestOfFirst 91 (.ishl) 1 92 from ⟨by decide +kernel, rfl⟩) ?_
    refine J_goto (tg := 96) (show Dc Y_X2_fewestOfFirst 92 (.goto 4) 3 95 from ⟨by decide +kernel, rfl⟩) (by decide) ?_
    refine J_mask [true, true, true, true, true, true, true, false, true] ?_
    exact j_X2_fewestOfFirst_96 N x0 x1 x2 x3 x4 x5 x6 x8 (s0 ||| s1) ((1 : Int32) <<< (x8 &&& 31)) g h0 hL6 hL29

theorem j_X2_fewestOfFirst_29 {X : ZX} (N : Nat) (x0 : Nat) (x1 : Int32) (x2 : Int32) (x3 : Nat) (x4 : Int32) (x5 : Int32) (x6 : Int32) (x7 : Int32) (x8 : Int32)   (g : ZS) {K : ((Int32 × Int32) ⊕ ((Int32 × Int32) ⊕ Int32)) → Prop} (h0 : ∀ v, K (.inr (.inr v)) → xK X (some (.int v)) g) (hL6 : ∀ s, K (.inr (.inl s)) → zG Y_X2_fewestOfFirst X 0 0 6 [some (.ref x0), some (.int x1), some (.int x2), some (.ref x3), some (.int s.1), some (.int s.2), none, none, none] [] g) (hL29 : ∀ s, K (.inl s) → zG Y_X2_fewestOfFirst X 0 0 29 [some (.ref x0), some (.int x1), some (.int x2), some (.ref x3), some (.int x4), some (.int x5), some (.int x6), some (.int s.1), some (.int s.2)] [] g) : J Y_X2_fewestOfFirst X 0 0 29 [some (.ref x0), some (.int x1), some (.int x2), some (.ref x3), some (.int x4), some (.int x5), some (.int x6), some (.int x7), some (.int x8)] [] g (f_X2_fewestOfFirst_29 N x0 x1 x2 x3 x4 x5 x6 x7 x8 g) K := by
  unfold f_X2_fewestOfFirst_29
  refine J_iload rfl (show Dc Y_X2_fewestOfFirst 29 (.iload 8) 2 31 from ⟨by decide +kernel, rfl⟩) ?_
  refine J_iload rfl (show Dc Y_X2_fewestOfFirst 31 (.iload 5) 2 33 from ⟨by decide +kernel, rfl⟩) ?_
  refine J_icmp_gt (tg := 105) (show Dc Y_X2_fewestOfFirst 33 (.if_icmp .gt 72) 3 36 from ⟨by decide +kernel, rfl⟩) (by decide) (fun h => ?_) (fun h => ?_)
  · refine J_map (f := Sum.inr) (fun _ h => h) ?_
    refine J_iload rfl (show Dc Y_X2_fewestOfFirst 105 (.iload 7) 2 107 from ⟨by decide +kernel, rfl⟩) ?_
    refine J_istore [some (.ref x0), some (.int x1), some (.int x2), some (.ref x3), some (.int x7), some (.int x5), some (.int x6), some (.int x7), some (.int x8)] (show Dc Y_X2_fewestOfFirst 107 (.istore 4) 2 109 from ⟨by decide +kernel, rfl⟩) (by decide) rfl rfl ?_
    refine J_iinc (1 : Int32) [some (.ref x0), some (.int x1), some (.int x2), some (.ref x3), some (.int x7), some (.int (x5 + (1 : Int32))), some (.int x6), some (.int x7), some (.int x8)] (show Dc Y_X2_fewestOfFirst 109 (.iinc 5 1) 3 112 from ⟨by decide +kernel, rfl⟩) rfl rfl (by decide) rfl rfl ?_
    refine J_goto (tg := 6) (show Dc Y_X2_fewestOfFirst 112 (.goto (-106)) 3 115 from ⟨by decide +kernel, rfl⟩) (by decide) ?_
    refine J_mask [true, true, true, true, true, true, false, false, false] ?_
    exact J_leaf (fun h => hL6 (x7, x5 + (1 : Int32)) h)
  · refine J_iload rfl (show Dc Y_X2_fewestOfFirst 36 (.iload 4) 2 38 from ⟨by decide +kernel, rfl⟩) ?_
    refine J_iload rfl (show Dc Y_X2_fewestOfFirst 38 (.iload 8) 2 40 from ⟨by decide +kernel, rfl⟩) ?_
    refine J_ishr (show Dc Y_X2_fewestOfFirst 40 (.ishr) 1 41 from ⟨by decide +kernel, rfl⟩) ?_
    refine J_iconst (1 : Int32) rfl (show Dc Y_X2_fewestOfFirst 41 (.iconst 1) 1 42 from ⟨by decide +kernel, rfl⟩) ?_
    refine J_iand (show Dc Y_X2_fewestOfFirst 42 (.iand) 1 43 from ⟨by decide +kernel, rfl⟩) ?_
    refine J_if_eq (tg := 99) (show Dc Y_X2_fewestOfFirst 43 (.ifCond .eq 56) 3 46 from ⟨by decide +kernel, rfl⟩) (by decide) (fun h => ?_) (fun h => ?_)
    · exact j_X2_fewestOfFirst_99 N x0 x1 x2 x3 x4 x5 x6 x7 x8 g h0 hL6 hL29
    · refine J_iload rfl (show Dc Y_X2_fewestOfFirst 46 (.iload 7) 2 48 from ⟨by decide +kernel, rfl⟩) ?_
      refine J_aload_n rfl rfl (show Dc Y_X2_fewestOfFirst 48 (.aload_n 0) 1 49 from ⟨by decide +kernel, rfl⟩) ?_
      refine J_iload_n rfl rfl (show Dc Y_X2_fewestOfFirst 49 (.iload_n 1) 1 50 from ⟨by decide +kernel, rfl⟩) ?_
      refine J_iload rfl (show Dc Y_X2_fewestOfFirst 50 (.iload 8) 2 52 from ⟨by decide +kernel, rfl⟩) ?_
      refine J_iload rfl (show Dc Y_X2_fewestOfFirst 52 (.iload 6) 2 54 from ⟨by decide +kernel, rfl⟩) ?_
      refine J_callVi (fun r => r) (fun _ => g) (show Dc Y_X2_fewestOfFirst 54 (.invokevirtual 36) 3 57 from ⟨by decide +kernel, rfl⟩) w_m_RX2_36 w_in_X2_isSaidAt rfl w_se_X2_isSaidAt w_cw_X2_isSaidAt (c_X2_isSaidAt x0 x1 x8 x6 g) rfl rfl (by decide) (Nat.le_of_ble_eq_true rfl) (by decide) (by decide) (fun v1 => ?_)
      refine J_if_eq (tg := 67) (show Dc Y_X2_fewestOfFirst 57 (.ifCond .eq 10) 3 60 from ⟨by decide +kernel, rfl⟩) (by decide) (fun h => ?_) (fun h => ?_)
      · refine J_iconst (0 : Int32) rfl (show Dc Y_X2_fewestOfFirst 67 (.iconst 0) 1 68 from ⟨by decide +kernel, rfl⟩) ?_
        refine J_mask [true, true, true, true, true, true, true, false, true] ?_
        exact j_X2_fewestOfFirst_68 N x0 x1 x2 x3 x4 x5 x6 x8 x7 (0 : Int32) g h0 hL6 hL29
      · refine J_iconst (2 : Int32) rfl (show Dc Y_X2_fewestOfFirst 60 (.iconst 2) 1 61 from ⟨by decide +kernel, rfl⟩) ?_
        refine J_iload rfl (show Dc Y_X2_fewestOfFirst 61 (.iload 8) 2 63 from ⟨by decide +kernel, rfl⟩) ?_
        refine J_ishl (show Dc Y_X2_fewestOfFirst 63 (.ishl) 1 64 from ⟨by decide +kernel, rfl⟩) ?_
        refine J_goto (tg := 68) (show Dc Y_X2_fewestOfFirst 64 (.goto 4) 3 67 from ⟨by decide +kernel, rfl⟩) (by decide) ?_
        refine J_mask [true, true, true, true, true, true, true, false, true] ?_
        exact j_X2_fewestOfFirst_68 N x0 x1 x2 x3 x4 x5 x6 x8 x7 ((2 : Int32) <<< (x8 &&& 31)) g h0 hL6 hL29

theorem j_X2_fewestOfFirst_6 {X : ZX} (N : Nat) (x0 : Nat) (x1 : Int32) (x2 : Int32) (x3 : Nat) (x4 : Int32) (x5 : Int32)   (g : ZS) {K : ((Int32 × Int32) ⊕ Int32) → Prop} (h0 : ∀ v, K (.inr v) → xK X (some (.int v)) g) (hL6 : ∀ s, K (.inl s) → zG Y_X2_fewestOfFirst X 0 0 6 [some (.ref x0), some (.int x1), some (.int x2), some (.ref x3), some (.int s.1), some (.int s.2), none, none, none] [] g) : J Y_X2_fewestOfFirst X 0 0 6 [some (.ref x0), some (.int x1), some (.int x2), some (.ref x3), some (.int x4), some (.int x5), none, none, none] [] g (f_X2_fewestOfFirst_6 N x0 x1 x2 x3 x4 x5 g) K := by
  unfold f_X2_fewestOfFirst_6
  refine J_iload rfl (show Dc Y_X2_fewestOfFirst 6 (.iload 5) 2 8 from ⟨by decide +kernel, rfl⟩) ?_
  refine J_aload_n rfl rfl (show Dc Y_X2_fewestOfFirst 8 (.aload_n 3) 1 9 from ⟨by decide +kernel, rfl⟩) ?_
  refine J_getI (show Dc Y_X2_fewestOfFirst 9 (.getfield 20) 3 12 from ⟨by decide +kernel, rfl⟩) w_f_RX2_20 rfl (fun v1 => ?_)
  refine J_icmp_ge (tg := 115) (show Dc Y_X2_fewestOfFirst 12 (.if_icmp .ge 103) 3 15 from ⟨by decide +kernel, rfl⟩) (by decide) (fun h => ?_) (fun h => ?_)
  · refine J_map (f := Sum.inr) (fun _ h => h) ?_
    refine J_iload rfl (show Dc Y_X2_fewestOfFirst 115 (.iload 4) 2 117 from ⟨by decide +kernel, rfl⟩) ?_
    refine J_callSNi (host := "ParrotsLast") (fun r => r) (fun _ => g) (show Dc Y_X2_fewestOfFirst 117 (.invokestatic 40) 3 120 from ⟨by decide +kernel, rfl⟩) (by decide +kernel) w_st_X11_lowestOf w_cw_X11_lowestOf (c_X11_lowestOf N x4 g) rfl rfl (by decide) (Nat.le_of_ble_eq_true rfl) (by decide) (by decide) (fun v2 => ?_)
    exact J_reti (show Dc Y_X2_fewestOfFirst 120 (.ireturn) 1 121 from ⟨by decide +kernel, rfl⟩) rfl (h0 _) (by decide) (by decide)
  · refine J_aload_n rfl rfl (show Dc Y_X2_fewestOfFirst 15 (.aload_n 3) 1 16 from ⟨by decide +kernel, rfl⟩) ?_
    refine J_iload rfl (show Dc Y_X2_fewestOfFirst 16 (.iload 5) 2 18 from ⟨by decide +kernel, rfl⟩) ?_
    refine J_callVi (fun r => r) (fun _ => g) (show Dc Y_X2_fewestOfFirst 18 (.invokevirtual 26) 3 21 from ⟨by decide +kernel, rfl⟩) w_m_RX2_26 w_in_X8_wordAt rfl w_se_X8_wordAt w_cw_X8_wordAt (c_X8_wordAt x3 x5 g) rfl rfl (by decide) (Nat.le_of_ble_eq_true rfl) (by decide) (by decide) (fun v3 => ?_)
    refine J_istore [some (.ref x0), some (.int x1), some (.int x2), some (.ref x3), some (.int x4), some (.int x5), some (.int v3), none, none] (show Dc Y_X2_fewestOfFirst 21 (.istore 6) 2 23 from ⟨by decide +kernel, rfl⟩) (by decide) rfl rfl ?_
    refine J_iconst (0 : Int32) rfl (show Dc Y_X2_fewestOfFirst 23 (.iconst 0) 1 24 from ⟨by decide +kernel, rfl⟩) ?_
    refine J_istore [some (.ref x0), some (.int x1), some (.int x2), some (.ref x3), some (.int x4), some (.int x5), some (.int v3), some (.int (0 : Int32)), none] (show Dc Y_X2_fewestOfFirst 24 (.istore 7) 2 26 from ⟨by decide +kernel, rfl⟩) (by decide) rfl rfl ?_
    refine J_iconst (0 : Int32) rfl (show Dc Y_X2_fewestOfFirst 26 (.iconst 0) 1 27 from ⟨by decide +kernel, rfl⟩) ?_
    refine J_istore [some (.ref x0), some (.int x1), some (.int x2), some (.ref x3), some (.int x4), some (.int x5), some (.int v3), some (.int (0 : Int32)), some (.int (0 : Int32))] (show Dc Y_X2_fewestOfFirst 27 (.istore 8) 2 29 from ⟨by decide +kernel, rfl⟩) (by decide) rfl rfl ?_
    exact J_loop (X := X) (K := K) (uc := fun _ => 0) (us := fun _ => 0) (lf := fun s => [some (.ref x0), some (.int x1), some (.int x2), some (.ref x3), some (.int x4), some (.int x5), some (.int v3), some (.int s.1), some (.int s.2)]) (gf := fun s => g) (fun s => j_X2_fewestOfFirst_29 (K := zKl Y_X2_fewestOfFirst X 29 (fun _ => 0) (fun _ => 0) (fun s => [some (.ref x0), some (.int x1), some (.int x2), some (.ref x3), some (.int x4), some (.int x5), some (.int v3), some (.int s.1), some (.int s.2)]) (fun s => g) K) N x0 x1 x2 x3 x4 x5 v3 s.1 s.2 g h0 hL6 (fun s h => h)) N ((0 : Int32), (0 : Int32))

theorem j_X2_fewestOfFirst {X : ZX} (N : Nat) (x0 : Nat) (x1 : Int32) (x2 : Int32) (x3 : Nat)   (g : ZS) {K : Int32 → Prop} (h0 : ∀ v, K v → xK X (some (.int v)) g) : J Y_X2_fewestOfFirst X 0 0 0 [some (.ref x0), some (.int x1), some (.int x2), some (.ref x3), none, none, none, none, none] [] g (f_X2_fewestOfFirst N x0 x1 x2 x3 g) K := by
  unfold f_X2_fewestOfFirst
  refine J_iconst (1 : Int32) rfl (show Dc Y_X2_fewestOfFirst 0 (.iconst 1) 1 1 from ⟨by decide +kernel, rfl⟩) ?_
  refine J_istore [some (.ref x0), some (.int x1), some (.int x2), some (.ref x3), some (.int (1 : Int32)), none, none, none, none] (show Dc Y_X2_fewestOfFirst 1 (.istore 4) 2 3 from ⟨by decide +kernel, rfl⟩) (by decide) rfl rfl ?_
  refine J_iconst (0 : Int32) rfl (show Dc Y_X2_fewestOfFirst 3 (.iconst 0) 1 4 from ⟨by decide +kernel, rfl⟩) ?_
  refine J_istore [some (.ref x0), some (.int x1), some (.int x2), some (.ref x3), some (.int (1 : Int32)), some (.int (0 : Int32)), none, none, none] (show Dc Y_X2_fewestOfFirst 4 (.istore 5) 2 6 from ⟨by decide +kernel, rfl⟩) (by decide) rfl rfl ?_
  exact J_loop (X := X) (K := K) (uc := fun _ => 0) (us := fun _ => 0) (lf := fun s => [some (.ref x0), some (.int x1), some (.int x2), some (.ref x3), some (.int s.1), some (.int s.2), none, none, none]) (gf := fun s => g) (fun s => j_X2_fewestOfFirst_6 (K := zKl Y_X2_fewestOfFirst X 6 (fun _ => 0) (fun _ => 0) (fun s => [some (.ref x0), some (.int x1), some (.int x2), some (.ref x3), some (.int s.1), some (.int s.2), none, none, none]) (fun s => g) K) N x0 x1 x2 x3 s.1 s.2 g h0 (fun s h => h)) N ((1 : Int32), (0 : Int32))

theorem c_X2_fewestOfFirst {l : Launch} {D : ZD} {B0 : Nat} (N : Nat) (x0 : Nat) (x1 : Int32) (x2 : Int32) (x3 : Nat) (g : ZS) : ∀ r, f_X2_fewestOfFirst N x0 x1 x2 x3 g = some r → zCt l D B0 yX2_fewestOfFirst Y_X2_fewestOfFirst [.ref x0, .int x1, .int x2, .ref x3] g (some (.int r)) g :=
  zCt_ofF (vo := fun r => some (.int r)) (so := fun _ => g) (by decide +kernel) rfl (fun h => by cases h) rfl (Nat.le_of_ble_eq_true rfl) (fun X => j_X2_fewestOfFirst N x0 x1 x2 x3 g (fun _ h => h))

theorem j_X11_readBlend {X : ZX} (N : Nat) (x0 : Nat) (x1 : Int32) (x2 : Int32)   (g : ZS) {K : (Int32 × ZS) → Prop} (h0 : ∀ v g, K (v, g) → xK X (some (.int v)) g) : J Y_X11_readBlend X 0 0 0 [some (.ref x0), some (.int x1), some (.int x2), none, none] [] g (f_X11_readBlend N x0 x1 x2 g) K := by
  unfold f_X11_readBlend
  refine J_aload_n rfl rfl (show Dc Y_X11_readBlend 0 (.aload_n 0) 1 1 from ⟨by decide +kernel, rfl⟩) ?_
  refine J_getR (show Dc Y_X11_readBlend 1 (.getfield 10) 3 4 from ⟨by decide +kernel, rfl⟩) w_f_RX11_10 rfl (fun v1 => ?_)
  refine J_callVi (fun r => r) (fun _ => g) (show Dc Y_X11_readBlend 4 (.invokevirtual 121) 3 7 from ⟨by decide +kernel, rfl⟩) w_m_RX11_121 w_in_X8_badInTale rfl w_se_X8_badInTale w_cw_X8_badInTale (c_X8_badInTale N v1 g) rfl rfl (by decide) (Nat.le_of_ble_eq_true rfl) (by decide) (by decide) (fun v2 => ?_)
  refine J_istore_n [some (.ref x0), some (.int x1), some (.int x2), some (.int v2), none] (show Dc Y_X11_readBlend 7 (.istore_n 3) 1 8 from ⟨by decide +kernel, rfl⟩) rfl (by decide) rfl rfl ?_
  refine J_iload_n rfl rfl (show Dc Y_X11_readBlend 8 (.iload_n 3) 1 9 from ⟨by decide +kernel, rfl⟩) ?_
  refine J_iconst (-1 : Int32) rfl (show Dc Y_X11_readBlend 9 (.iconst (-1)) 1 10 from ⟨by decide +kernel, rfl⟩) ?_
  refine J_icmp_eq (tg := 17) (show Dc Y_X11_readBlend 10 (.if_icmp .eq 7) 3 13 from ⟨by decide +kernel, rfl⟩) (by decide) (fun h => ?_) (fun h => ?_)
  · refine J_aload_n rfl rfl (show Dc Y_X11_readBlend 17 (.aload_n 0) 1 18 from ⟨by decide +kernel, rfl⟩) ?_
    refine J_getR (show Dc Y_X11_readBlend 18 (.getfield 26) 3 21 from ⟨by decide +kernel, rfl⟩) w_f_RX11_26 rfl (fun v3 => ?_)
    refine J_iload_n rfl rfl (show Dc Y_X11_readBlend 21 (.iload_n 1) 1 22 from ⟨by decide +kernel, rfl⟩) ?_
    refine J_iload_n rfl rfl (show Dc Y_X11_readBlend 22 (.iload_n 2) 1 23 from ⟨by decide +kernel, rfl⟩) ?_
    refine J_aload_n rfl rfl (show Dc Y_X11_readBlend 23 (.aload_n 0) 1 24 from ⟨by decide +kernel, rfl⟩) ?_
    refine J_getR (show Dc Y_X11_readBlend 24 (.getfield 10) 3 27 from ⟨by decide +kernel, rfl⟩) w_f_RX11_10 rfl (fun v4 => ?_)
    refine J_callVi (fun r => r) (fun _ => g) (show Dc Y_X11_readBlend 27 (.invokevirtual 361) 3 30 from ⟨by decide +kernel, rfl⟩) w_m_RX11_361 w_in_X2_fewestOfFirst rfl w_se_X2_fewestOfFirst w_cw_X2_fewestOfFirst (c_X2_fewestOfFirst N v3 x1 x2 v4 g) rfl rfl (by decide) (Nat.le_of_ble_eq_true rfl) (by decide) (by decide) (fun v5 => ?_)
    refine J_istore [some (.ref x0), some (.int x1), some (.int x2), some (.int v2), some (.int v5)] (show Dc Y_X11_readBlend 30 (.istore 4) 2 32 from ⟨by decide +kernel, rfl⟩) (by decide) rfl rfl ?_
    refine J_iload rfl (show Dc Y_X11_readBlend 32 (.iload 4) 2 34 from ⟨by decide +kernel, rfl⟩) ?_
    refine J_iconst (-1 : Int32) rfl (show Dc Y_X11_readBlend 34 (.iconst (-1)) 1 35 from ⟨by decide +kernel, rfl⟩) ?_
    refine J_icmp_ne (tg := 40) (show Dc Y_X11_readBlend 35 (.if_icmp .ne 5) 3 38 from ⟨by decide +kernel, rfl⟩) (by decide) (fun h => ?_) (fun h => ?_)
    · refine J_aload_n rfl rfl (show Dc Y_X11_readBlend 40 (.aload_n 0) 1 41 from ⟨by decide +kernel, rfl⟩) ?_
      refine J_getR (show Dc Y_X11_readBlend 41 (.getfield 19) 3 44 from ⟨by decide +kernel, rfl⟩) w_f_RX11_19 rfl (fun v6 => ?_)
      refine J_iload rfl (show Dc Y_X11_readBlend 44 (.iload 4) 2 46 from ⟨by decide +kernel, rfl⟩) ?_
      refine J_i2l (show Dc Y_X11_readBlend 46 (.i2l) 1 47 from ⟨by decide +kernel, rfl⟩) ?_
      refine J_callVv (fun r => r) (show Dc Y_X11_readBlend 47 (.invokevirtual 339) 3 50 from ⟨by decide +kernel, rfl⟩) w_m_RX11_339 w_in_X9_only rfl w_se_X9_only w_cw_X9_only (c_X9_only v6 v5.toInt64 g) rfl rfl (by decide) (Nat.le_of_ble_eq_true rfl) (by decide) (by decide) (fun g7 => ?_)
      refine J_iconst (1 : Int32) rfl (show Dc Y_X11_readBlend 50 (.iconst 1) 1 51 from ⟨by decide +kernel, rfl⟩) ?_
      exact J_reti (show Dc Y_X11_readBlend 51 (.ireturn) 1 52 from ⟨by decide +kernel, rfl⟩) rfl (h0 _ _) (by decide) (by decide)
    · refine J_iconst (0 : Int32) rfl (show Dc Y_X11_readBlend 38 (.iconst 0) 1 39 from ⟨by decide +kernel, rfl⟩) ?_
      exact J_reti (show Dc Y_X11_readBlend 39 (.ireturn) 1 40 from ⟨by decide +kernel, rfl⟩) rfl (h0 _ _) (by decide) (by decide)
  · refine J_iconst (-1 : Int32) rfl (show Dc Y_X11_readBlend 13 (.iconst (-1)) 1 14 from ⟨by decide +kernel, rfl⟩) ?_
    refine J_iload_n rfl rfl (show Dc Y_X11_readBlend 14 (.iload_n 3) 1 15 from ⟨by decide +kernel, rfl⟩) ?_
    refine J_isub (show Dc Y_X11_readBlend 15 (.isub) 1 16 from ⟨by decide +kernel, rfl⟩) ?_
    exact J_reti (show Dc Y_X11_readBlend 16 (.ireturn) 1 17 from ⟨by decide +kernel, rfl⟩) rfl (h0 _ _) (by decide) (by decide)

theorem c_X11_readBlend {l : Launch} {D : ZD} {B0 : Nat} (N : Nat) (x0 : Nat) (x1 : Int32) (x2 : Int32) (g : ZS) : ∀ r, f_X11_readBlend N x0 x1 x2 g = some r → zCt l D B0 yX11_readBlend Y_X11_readBlend [.ref x0, .int x1, .int x2] g (some (.int r.1)) r.2 :=
  zCt_ofF (vo := fun r => some (.int r.1)) (so := fun r => r.2) (by decide +kernel) rfl (fun h => by cases h) rfl (Nat.le_of_ble_eq_true rfl) (fun X => j_X11_readBlend N x0 x1 x2 g (fun _ _ h => h))

theorem j_X11_blend_30 {X : ZX} (N : Nat) (x0 : Nat) (s0 : Int32)  (g : ZS) {K : (Int32 × ZS) → Prop} (h0 : ∀ v g, K (v, g) → xK X (some (.int v)) g) : J Y_X11_blend X 0 0 30 [some (.ref x0), none, none, none] [.int s0] g (f_X11_blend_30 N x0 s0 g) K := by
  unfold f_X11_blend_30
  refine J_istore_n [some (.ref x0), none, none, some (.int s0)] (show Dc Y_X11_blend 30 (.istore_n 3) 1 31 from ⟨by decide +kernel, rfl⟩) rfl (by decide) rfl rfl ?_
  refine J_aload_n rfl rfl (show Dc Y_X11_blend 31 (.aload_n 0) 1 32 from ⟨by decide +kernel, rfl⟩) ?_
  refine J_getR (show Dc Y_X11_blend 32 (.getfield 10) 3 35 from ⟨by decide +kernel, rfl⟩) w_f_RX11_10 rfl (fun v1 => ?_)
  refine J_iconst (0 : Int32) rfl (show Dc Y_X11_blend 35 (.iconst 0) 1 36 from ⟨by decide +kernel, rfl⟩) ?_
  refine J_putI (show Dc Y_X11_blend 36 (.putfield 110) 3 39 from ⟨by decide +kernel, rfl⟩) w_f_RX11_110 rfl rfl (fun g2 => ?_) (fun h => by cases h)
  refine J_iload_n rfl rfl (show Dc Y_X11_blend 39 (.iload_n 3) 1 40 from ⟨by decide +kernel, rfl⟩) ?_
  exact J_reti (show Dc Y_X11_blend 40 (.ireturn) 1 41 from ⟨by decide +kernel, rfl⟩) rfl (h0 _ _) (by decide) (by decide)

theorem j_X11_blend_28 {X : ZX} (N : Nat) (x0 : Nat)   (g : ZS) {K : (Int32 × ZS) → Prop} (h0 : ∀ v g, K (v, g) → xK X (some (.int v)) g) : J Y_X11_blend X 0 0 28 [some (.ref x0), none, none, none] [] g (f_X11_blend_28 N x0 g) K := by
  unfold f_X11_blend_28
  refine J_bipush (-100 : Int32) rfl (show Dc Y_X11_blend 28 (.bipush (-100)) 2 30 from ⟨by decide +kernel, rfl⟩) ?_
  exact j_X11_blend_30 N x0 (-100 : Int32) g h0

theorem j_X11_blend {X : ZX} (N : Nat) (x0 : Nat) (x1 : Int32) (x2 : Int32)   (g : ZS) {K : (Int32 × ZS) → Prop} (h0 : ∀ v g, K (v, g) → xK X (some (.int v)) g) : J Y_X11_blend X 0 0 0 [some (.ref x0), some (.int x1), some (.int x2), none] [] g (f_X11_blend N x0 x1 x2 g) K := by
  unfold f_X11_blend
  refine J_iload_n rfl rfl (show Dc Y_X11_blend 0 (.iload_n 1) 1 1 from ⟨by decide +kernel, rfl⟩) ?_
  refine J_callSi (fun r => r) (fun _ => g) (show Dc Y_X11_blend 1 (.invokestatic 114) 3 4 from ⟨by decide +kernel, rfl⟩) w_m_RX11_114 w_st_X11_isHouse w_cw_X11_isHouse (c_X11_isHouse x1 g) rfl rfl (by decide) (Nat.le_of_ble_eq_true rfl) (by decide) (by decide) (fun v1 => ?_)
  refine J_if_eq (tg := 28) (show Dc Y_X11_blend 4 (.ifCond .eq 24) 3 7 from ⟨by decide +kernel, rfl⟩) (by decide) (fun h => ?_) (fun h => ?_)
  · refine J_mask [true, false, false, false] ?_
    exact j_X11_blend_28 N x0 g h0
  · refine J_iload_n rfl rfl (show Dc Y_X11_blend 7 (.iload_n 2) 1 8 from ⟨by decide +kernel, rfl⟩) ?_
    refine J_callSi (fun r => r) (fun _ => g) (show Dc Y_X11_blend 8 (.invokestatic 114) 3 11 from ⟨by decide +kernel, rfl⟩) w_m_RX11_114 w_st_X11_isHouse w_cw_X11_isHouse (c_X11_isHouse x2 g) rfl rfl (by decide) (Nat.le_of_ble_eq_true rfl) (by decide) (by decide) (fun v2 => ?_)
    refine J_if_eq (tg := 28) (show Dc Y_X11_blend 11 (.ifCond .eq 17) 3 14 from ⟨by decide +kernel, rfl⟩) (by decide) (fun h => ?_) (fun h => ?_)
    · refine J_mask [true, false, false, false] ?_
      exact j_X11_blend_28 N x0 g h0
    · refine J_iload_n rfl rfl (show Dc Y_X11_blend 14 (.iload_n 1) 1 15 from ⟨by decide +kernel, rfl⟩) ?_
      refine J_iload_n rfl rfl (show Dc Y_X11_blend 15 (.iload_n 2) 1 16 from ⟨by decide +kernel, rfl⟩) ?_
      refine J_icmp_eq (tg := 28) (show Dc Y_X11_blend 16 (.if_icmp .eq 12) 3 19 from ⟨by decide +kernel, rfl⟩) (by decide) (fun h => ?_) (fun h => ?_)
      · refine J_mask [true, false, false, false] ?_
        exact j_X11_blend_28 N x0 g h0
      · refine J_aload_n rfl rfl (show Dc Y_X11_blend 19 (.aload_n 0) 1 20 from ⟨by decide +kernel, rfl⟩) ?_
        refine J_iload_n rfl rfl (show Dc Y_X11_blend 20 (.iload_n 1) 1 21 from ⟨by decide +kernel, rfl⟩) ?_
        refine J_iload_n rfl rfl (show Dc Y_X11_blend 21 (.iload_n 2) 1 22 from ⟨by decide +kernel, rfl⟩) ?_
        refine J_callVi (fun r => r.1) (fun r => r.2) (show Dc Y_X11_blend 22 (.invokevirtual 358) 3 25 from ⟨by decide +kernel, rfl⟩) w_m_RX11_358 w_in_X11_readBlend rfl w_se_X11_readBlend w_cw_X11_readBlend (c_X11_readBlend N x0 x1 x2 g) rfl rfl (by decide) (Nat.le_of_ble_eq_true rfl) (by decide) (by decide) (fun r3 => ?_)
        refine J_goto (tg := 30) (show Dc Y_X11_blend 25 (.goto 5) 3 28 from ⟨by decide +kernel, rfl⟩) (by decide) ?_
        refine J_mask [true, false, false, false] ?_
        exact j_X11_blend_30 N x0 r3.1 r3.2 h0

theorem c_X11_blend {l : Launch} {D : ZD} {B0 : Nat} (N : Nat) (x0 : Nat) (x1 : Int32) (x2 : Int32) (g : ZS) : ∀ r, f_X11_blend N x0 x1 x2 g = some r → zCt l D B0 yX11_blend Y_X11_blend [.ref x0, .int x1, .int x2] g (some (.int r.1)) r.2 :=
  zCt_ofF (vo := fun r => some (.int r.1)) (so := fun r => r.2) (by decide +kernel) rfl (fun h => by cases h) rfl (Nat.le_of_ble_eq_true rfl) (fun X => j_X11_blend N x0 x1 x2 g (fun _ _ h => h))

theorem j_X12_blendOf_160 {X : ZX} (N : Nat) (x0 : Nat) (x1 : Int32) (x2 : Int32) (x3 : Int32) (x4 : Int32) (x5 : Int32)   (g : ZS) {K : ((Int32 × ZS) ⊕ ((Int32 × ZS) ⊕ (Int32 × ZS))) → Prop} (h0 : ∀ v g, K (.inr (.inr (v, g))) → xK X (some (.int v)) g) (hL10 : ∀ s, K (.inr (.inl s)) → zG Y_X12_blendOf X 0 0 10 [some (.ref x0), some (.int x1), some (.int x2), some (.int x3), some (.int s.1), none] [] s.2) (hL29 : ∀ s, K (.inl s) → zG Y_X12_blendOf X 0 0 29 [some (.ref x0), some (.int x1), some (.int x2), some (.int x3), some (.int x4), some (.int s.1)] [] s.2) : J Y_X12_blendOf X 0 0 160 [some (.ref x0), some (.int x1), some (.int x2), some (.int x3), some (.int x4), some (.int x5)] [] g (f_X12_blendOf_160 N x0 x1 x2 x3 x4 x5 g) K := by
  unfold f_X12_blendOf_160
  refine J_iinc (1 : Int32) [some (.ref x0), some (.int x1), some (.int x2), some (.int x3), some (.int x4), some (.int (x5 + (1 : Int32)))] (show Dc Y_X12_blendOf 160 (.iinc 5 1) 3 163 from ⟨by decide +kernel, rfl⟩) rfl rfl (by decide) rfl rfl ?_
  refine J_goto (tg := 29) (show Dc Y_X12_blendOf 163 (.goto (-134)) 3 166 from ⟨by decide +kernel, rfl⟩) (by decide) ?_
  exact J_leaf (fun h => hL29 (x5 + (1 : Int32), g) h)

theorem j_X12_blendOf_105 {X : ZX} (N : Nat) (x0 : Nat) (x1 : Int32) (x2 : Int32) (x3 : Int32) (x4 : Int32) (x5 : Int32)   (g : ZS) {K : ((Int32 × ZS) ⊕ ((Int32 × ZS) ⊕ (Int32 × ZS))) → Prop} (h0 : ∀ v g, K (.inr (.inr (v, g))) → xK X (some (.int v)) g) (hL10 : ∀ s, K (.inr (.inl s)) → zG Y_X12_blendOf X 0 0 10 [some (.ref x0), some (.int x1), some (.int x2), some (.int x3), some (.int s.1), none] [] s.2) (hL29 : ∀ s, K (.inl s) → zG Y_X12_blendOf X 0 0 29 [some (.ref x0), some (.int x1), some (.int x2), some (.int x3), some (.int x4), some (.int s.1)] [] s.2) : J Y_X12_blendOf X 0 0 105 [some (.ref x0), some (.int x1), some (.int x2), some (.int x3), some (.int x4), some (.int x5)] [] g (f_X12_blendOf_105 N x0 x1 x2 x3 x4 x5 g) K := by
  unfold f_X12_blendOf_105
  refine J_iload rfl (show Dc Y_X12_blendOf 105 (.iload 4) 2 107 from ⟨by decide +kernel, rfl⟩) ?_
  refine J_iload rfl (show Dc Y_X12_blendOf 107 (.iload 5) 2 109 from ⟨by decide +kernel, rfl⟩) ?_
  refine J_isub (show Dc Y_X12_blendOf 109 (.isub) 1 110 from ⟨by decide +kernel, rfl⟩) ?_
  refine J_aload_n rfl rfl (show Dc Y_X12_blendOf 110 (.aload_n 0) 1 111 from ⟨by decide +kernel, rfl⟩) ?_
  refine J_getR (show Dc Y_X12_blendOf 111 (.getfield 22) 3 114 from ⟨by decide +kernel, rfl⟩) w_f_RX12_22 rfl (fun v1 => ?_)
  refine J_iload_n rfl rfl (show Dc Y_X12_blendOf 114 (.iload_n 2) 1 115 from ⟨by decide +kernel, rfl⟩) ?_
  refine J_iald (show Dc Y_X12_blendOf 115 (.iaload) 1 116 from ⟨by decide +kernel, rfl⟩) (fun v2 => ?_)
  refine J_icmp_ge (tg := 160) (show Dc Y_X12_blendOf 116 (.if_icmp .ge 44) 3 119 from ⟨by decide +kernel, rfl⟩) (by decide) (fun h => ?_) (fun h => ?_)
  · exact j_X12_blendOf_160 N x0 x1 x2 x3 x4 x5 g h0 hL10 hL29
  · refine J_aload_n rfl rfl (show Dc Y_X12_blendOf 119 (.aload_n 0) 1 120 from ⟨by decide +kernel, rfl⟩) ?_
    refine J_getR (show Dc Y_X12_blendOf 120 (.getfield 19) 3 123 from ⟨by decide +kernel, rfl⟩) w_f_RX12_19 rfl (fun v3 => ?_)
    refine J_bipush (16 : Int32) rfl (show Dc Y_X12_blendOf 123 (.bipush 16) 2 125 from ⟨by decide +kernel, rfl⟩) ?_
    refine J_iload_n rfl rfl (show Dc Y_X12_blendOf 125 (.iload_n 2) 1 126 from ⟨by decide +kernel, rfl⟩) ?_
    refine J_imul (show Dc Y_X12_blendOf 126 (.imul) 1 127 from ⟨by decide +kernel, rfl⟩) ?_
    refine J_iload rfl (show Dc Y_X12_blendOf 127 (.iload 4) 2 129 from ⟨by decide +kernel, rfl⟩) ?_
    refine J_iadd (show Dc Y_X12_blendOf 129 (.iadd) 1 130 from ⟨by decide +kernel, rfl⟩) ?_
    refine J_iload rfl (show Dc Y_X12_blendOf 130 (.iload 5) 2 132 from ⟨by decide +kernel, rfl⟩) ?_
    refine J_isub (show Dc Y_X12_blendOf 132 (.isub) 1 133 from ⟨by decide +kernel, rfl⟩) ?_
    refine J_iald (show Dc Y_X12_blendOf 133 (.iaload) 1 134 from ⟨by decide +kernel, rfl⟩) (fun v4 => ?_)
    refine J_aload_n rfl rfl (show Dc Y_X12_blendOf 134 (.aload_n 0) 1 135 from ⟨by decide +kernel, rfl⟩) ?_
    refine J_getR (show Dc Y_X12_blendOf 135 (.getfield 33) 3 138 from ⟨by decide +kernel, rfl⟩) w_f_RX12_33 rfl (fun v5 => ?_)
    refine J_iload rfl (show Dc Y_X12_blendOf 138 (.iload 4) 2 140 from ⟨by decide +kernel, rfl⟩) ?_
    refine J_iald (show Dc Y_X12_blendOf 140 (.iaload) 1 141 from ⟨by decide +kernel, rfl⟩) (fun v6 => ?_)
    refine J_icmp_ne (tg := 160) (show Dc Y_X12_blendOf 141 (.if_icmp .ne 19) 3 144 from ⟨by decide +kernel, rfl⟩) (by decide) (fun h => ?_) (fun h => ?_)
    · exact j_X12_blendOf_160 N x0 x1 x2 x3 x4 x5 g h0 hL10 hL29
    · refine J_aload_n rfl rfl (show Dc Y_X12_blendOf 144 (.aload_n 0) 1 145 from ⟨by decide +kernel, rfl⟩) ?_
      refine J_getR (show Dc Y_X12_blendOf 145 (.getfield 69) 3 148 from ⟨by decide +kernel, rfl⟩) w_f_RX12_69 rfl (fun v7 => ?_)
      refine J_iload rfl (show Dc Y_X12_blendOf 148 (.iload 4) 2 150 from ⟨by decide +kernel, rfl⟩) ?_
      refine J_iconst (1 : Int32) rfl (show Dc Y_X12_blendOf 150 (.iconst 1) 1 151 from ⟨by decide +kernel, rfl⟩) ?_
      refine J_iadd (show Dc Y_X12_blendOf 151 (.iadd) 1 152 from ⟨by decide +kernel, rfl⟩) ?_
      refine J_dup2 rfl rfl (show Dc Y_X12_blendOf 152 (.dup2) 1 153 from ⟨by decide +kernel, rfl⟩) ?_
      refine J_iald (show Dc Y_X12_blendOf 153 (.iaload) 1 154 from ⟨by decide +kernel, rfl⟩) (fun v8 => ?_)
      refine J_iconst (1 : Int32) rfl (show Dc Y_X12_blendOf 154 (.iconst 1) 1 155 from ⟨by decide +kernel, rfl⟩) ?_
      refine J_iload rfl (show Dc Y_X12_blendOf 155 (.iload 5) 2 157 from ⟨by decide +kernel, rfl⟩) ?_
      refine J_ishl (show Dc Y_X12_blendOf 157 (.ishl) 1 158 from ⟨by decide +kernel, rfl⟩) ?_
      refine J_ior (show Dc Y_X12_blendOf 158 (.ior) 1 159 from ⟨by decide +kernel, rfl⟩) ?_
      refine J_iast (show Dc Y_X12_blendOf 159 (.iastore) 1 160 from ⟨by decide +kernel, rfl⟩) (fun g9 => ?_)
      exact j_X12_blendOf_160 N x0 x1 x2 x3 x4 x5 g9 h0 hL10 hL29

theorem j_X12_blendOf_29 {X : ZX} (N : Nat) (x0 : Nat) (x1 : Int32) (x2 : Int32) (x3 : Int32) (x4 : Int32) (x5 : Int32)   (g : ZS) {K : ((Int32 × ZS) ⊕ ((Int32 × ZS) ⊕ (Int32 × ZS))) → Prop} (h0 : ∀ v g, K (.inr (.inr (v, g))) → xK X (some (.int v)) g) (hL10 : ∀ s, K (.inr (.inl s)) → zG Y_X12_blendOf X 0 0 10 [some (.ref x0), some (.int x1), some (.int x2), some (.int x3), some (.int s.1), none] [] s.2) (hL29 : ∀ s, K (.inl s) → zG Y_X12_blendOf X 0 0 29 [some (.ref x0), some (.int x1), some (.int x2), some (.int x3), some (.int x4), some (.int s.1)] [] s.2) : J Y_X12_blendOf X 0 0 29 [some (.ref x0), some (.int x1), some (.int x2), some (.int x3), some (.int x4), some (.int x5)] [] g (f_X12_blendOf_29 N x0 x1 x2 x3 x4 x5 g) K := by
  unfold f_X12_blendOf_29
  refine J_iload rfl (show Dc Y_X12_blendOf 29 (.iload 5) 2 31 from ⟨by decide +kernel, rfl⟩) ?_
  refine J_iload rfl (show Dc Y_X12_blendOf 31 (.iload 4) 2 33 from ⟨by decide +kernel, rfl⟩) ?_
  refine J_icmp_gt (tg := 166) (show Dc Y_X12_blendOf 33 (.if_icmp .gt 133) 3 36 from ⟨by decide +kernel, rfl⟩) (by decide) (fun h => ?_) (fun h => ?_)
  · refine J_map (f := Sum.inr) (fun _ h => h) ?_
    refine J_iinc (1 : Int32) [some (.ref x0), some (.int x1), some (.int x2), some (.int x3), some (.int (x4 + (1 : Int32))), some (.int x5)] (show Dc Y_X12_blendOf 166 (.iinc 4 1) 3 169 from ⟨by decide +kernel, rfl⟩) rfl rfl (by decide) rfl rfl ?_
    refine J_goto (tg := 10) (show Dc Y_X12_blendOf 169 (.goto (-159)) 3 172 from ⟨by decide +kernel, rfl⟩) (by decide) ?_
    refine J_mask [true, true, true, true, true, false] ?_
    exact J_leaf (fun h => hL10 (x4 + (1 : Int32), g) h)
  · refine J_aload_n rfl rfl (show Dc Y_X12_blendOf 36 (.aload_n 0) 1 37 from ⟨by decide +kernel, rfl⟩) ?_
    refine J_getR (show Dc Y_X12_blendOf 37 (.getfield 69) 3 40 from ⟨by decide +kernel, rfl⟩) w_f_RX12_69 rfl (fun v1 => ?_)
    refine J_iload rfl (show Dc Y_X12_blendOf 40 (.iload 4) 2 42 from ⟨by decide +kernel, rfl⟩) ?_
    refine J_iald (show Dc Y_X12_blendOf 42 (.iaload) 1 43 from ⟨by decide +kernel, rfl⟩) (fun v2 => ?_)
    refine J_iload rfl (show Dc Y_X12_blendOf 43 (.iload 5) 2 45 from ⟨by decide +kernel, rfl⟩) ?_
    refine J_callSi (fun r => r) (fun _ => g) (show Dc Y_X12_blendOf 45 (.invokestatic 328) 3 48 from ⟨by decide +kernel, rfl⟩) w_m_RX12_328 w_st_X12_has w_cw_X12_has (c_X12_has v2 x5 g) rfl rfl (by decide) (Nat.le_of_ble_eq_true rfl) (by decide) (by decide) (fun v3 => ?_)
    refine J_if_ne (tg := 54) (show Dc Y_X12_blendOf 48 (.ifCond .ne 6) 3 51 from ⟨by decide +kernel, rfl⟩) (by decide) (fun h => ?_) (fun h => ?_)
    · refine J_iload rfl (show Dc Y_X12_blendOf 54 (.iload 5) 2 56 from ⟨by decide +kernel, rfl⟩) ?_
      refine J_aload_n rfl rfl (show Dc Y_X12_blendOf 56 (.aload_n 0) 1 57 from ⟨by decide +kernel, rfl⟩) ?_
      refine J_getR (show Dc Y_X12_blendOf 57 (.getfield 22) 3 60 from ⟨by decide +kernel, rfl⟩) w_f_RX12_22 rfl (fun v4 => ?_)
      refine J_iload_n rfl rfl (show Dc Y_X12_blendOf 60 (.iload_n 1) 1 61 from ⟨by decide +kernel, rfl⟩) ?_
      refine J_iald (show Dc Y_X12_blendOf 61 (.iaload) 1 62 from ⟨by decide +kernel, rfl⟩) (fun v5 => ?_)
      refine J_icmp_ge (tg := 105) (show Dc Y_X12_blendOf 62 (.if_icmp .ge 43) 3 65 from ⟨by decide +kernel, rfl⟩) (by decide) (fun h => ?_) (fun h => ?_)
      · exact j_X12_blendOf_105 N x0 x1 x2 x3 x4 x5 g h0 hL10 hL29
      · refine J_aload_n rfl rfl (show Dc Y_X12_blendOf 65 (.aload_n 0) 1 66 from ⟨by decide +kernel, rfl⟩) ?_
        refine J_getR (show Dc Y_X12_blendOf 66 (.getfield 19) 3 69 from ⟨by decide +kernel, rfl⟩) w_f_RX12_19 rfl (fun v6 => ?_)
        refine J_bipush (16 : Int32) rfl (show Dc Y_X12_blendOf 69 (.bipush 16) 2 71 from ⟨by decide +kernel, rfl⟩) ?_
        refine J_iload_n rfl rfl (show Dc Y_X12_blendOf 71 (.iload_n 1) 1 72 from ⟨by decide +kernel, rfl⟩) ?_
        refine J_imul (show Dc Y_X12_blendOf 72 (.imul) 1 73 from ⟨by decide +kernel, rfl⟩) ?_
        refine J_iload rfl (show Dc Y_X12_blendOf 73 (.iload 5) 2 75 from ⟨by decide +kernel, rfl⟩) ?_
        refine J_iadd (show Dc Y_X12_blendOf 75 (.iadd) 1 76 from ⟨by decide +kernel, rfl⟩) ?_
        refine J_iald (show Dc Y_X12_blendOf 76 (.iaload) 1 77 from ⟨by decide +kernel, rfl⟩) (fun v7 => ?_)
        refine J_aload_n rfl rfl (show Dc Y_X12_blendOf 77 (.aload_n 0) 1 78 from ⟨by decide +kernel, rfl⟩) ?_
        refine J_getR (show Dc Y_X12_blendOf 78 (.getfield 33) 3 81 from ⟨by decide +kernel, rfl⟩) w_f_RX12_33 rfl (fun v8 => ?_)
        refine J_iload rfl (show Dc Y_X12_blendOf 81 (.iload 4) 2 83 from ⟨by decide +kernel, rfl⟩) ?_
        refine J_iald (show Dc Y_X12_blendOf 83 (.iaload) 1 84 from ⟨by decide +kernel, rfl⟩) (fun v9 => ?_)
        refine J_icmp_ne (tg := 105) (show Dc Y_X12_blendOf 84 (.if_icmp .ne 21) 3 87 from ⟨by decide +kernel, rfl⟩) (by decide) (fun h => ?_) (fun h => ?_)
        · exact j_X12_blendOf_105 N x0 x1 x2 x3 x4 x5 g h0 hL10 hL29
        · refine J_aload_n rfl rfl (show Dc Y_X12_blendOf 87 (.aload_n 0) 1 88 from ⟨by decide +kernel, rfl⟩) ?_
          refine J_getR (show Dc Y_X12_blendOf 88 (.getfield 69) 3 91 from ⟨by decide +kernel, rfl⟩) w_f_RX12_69 rfl (fun v10 => ?_)
          refine J_iload rfl (show Dc Y_X12_blendOf 91 (.iload 4) 2 93 from ⟨by decide +kernel, rfl⟩) ?_
          refine J_iconst (1 : Int32) rfl (show Dc Y_X12_blendOf 93 (.iconst 1) 1 94 from ⟨by decide +kernel, rfl⟩) ?_
          refine J_iadd (show Dc Y_X12_blendOf 94 (.iadd) 1 95 from ⟨by decide +kernel, rfl⟩) ?_
          refine J_dup2 rfl rfl (show Dc Y_X12_blendOf 95 (.dup2) 1 96 from ⟨by decide +kernel, rfl⟩) ?_
          refine J_iald (show Dc Y_X12_blendOf 96 (.iaload) 1 97 from ⟨by decide +kernel, rfl⟩) (fun v11 => ?_)
          refine J_iconst (1 : Int32) rfl (show Dc Y_X12_blendOf 97 (.iconst 1) 1 98 from ⟨by decide +kernel, rfl⟩) ?_
          refine J_iload rfl (show Dc Y_X12_blendOf 98 (.iload 5) 2 100 from ⟨by decide +kernel, rfl⟩) ?_
          refine J_iconst (1 : Int32) rfl (show Dc Y_X12_blendOf 100 (.iconst 1) 1 101 from ⟨by decide +kernel, rfl⟩) ?_
          refine J_iadd (show Dc Y_X12_blendOf 101 (.iadd) 1 102 from ⟨by decide +kernel, rfl⟩) ?_
          refine J_ishl (show Dc Y_X12_blendOf 102 (.ishl) 1 103 from ⟨by decide +kernel, rfl⟩) ?_
          refine J_ior (show Dc Y_X12_blendOf 103 (.ior) 1 104 from ⟨by decide +kernel, rfl⟩) ?_
          refine J_iast (show Dc Y_X12_blendOf 104 (.iastore) 1 105 from ⟨by decide +kernel, rfl⟩) (fun g12 => ?_)
          exact j_X12_blendOf_105 N x0 x1 x2 x3 x4 x5 g12 h0 hL10 hL29
    · refine J_goto (tg := 160) (show Dc Y_X12_blendOf 51 (.goto 109) 3 54 from ⟨by decide +kernel, rfl⟩) (by decide) ?_
      exact j_X12_blendOf_160 N x0 x1 x2 x3 x4 x5 g h0 hL10 hL29

theorem j_X12_blendOf_194 {X : ZX} (N : Nat)  (s0 : Int32)  (g : ZS) {K : (Int32 × ZS) → Prop} (h0 : ∀ v g, K (v, g) → xK X (some (.int v)) g) : J Y_X12_blendOf X 0 0 194 [none, none, none, none, none, none] [.int s0] g (f_X12_blendOf_194 N s0 g) K := by
  unfold f_X12_blendOf_194
  exact J_reti (show Dc Y_X12_blendOf 194 (.ireturn) 1 195 from ⟨by decide +kernel, rfl⟩) rfl (h0 _ _) (by decide) (by decide)

theorem j_X12_blendOf_10 {X : ZX} (N : Nat) (x0 : Nat) (x1 : Int32) (x2 : Int32) (x3 : Int32) (x4 : Int32)   (g : ZS) {K : ((Int32 × ZS) ⊕ (Int32 × ZS)) → Prop} (h0 : ∀ v g, K (.inr (v, g)) → xK X (some (.int v)) g) (hL10 : ∀ s, K (.inl s) → zG Y_X12_blendOf X 0 0 10 [some (.ref x0), some (.int x1), some (.int x2), some (.int x3), some (.int s.1), none] [] s.2) : J Y_X12_blendOf X 0 0 10 [some (.ref x0), some (.int x1), some (.int x2), some (.int x3), some (.int x4), none] [] g (f_X12_blendOf_10 N x0 x1 x2 x3 x4 g) K := by
  unfold f_X12_blendOf_10
  refine J_iload rfl (show Dc Y_X12_blendOf 10 (.iload 4) 2 12 from ⟨by decide +kernel, rfl⟩) ?_
  refine J_iload_n rfl rfl (show Dc Y_X12_blendOf 12 (.iload_n 3) 1 13 from ⟨by decide +kernel, rfl⟩) ?_
  refine J_icmp_ge (tg := 172) (show Dc Y_X12_blendOf 13 (.if_icmp .ge 159) 3 16 from ⟨by decide +kernel, rfl⟩) (by decide) (fun h => ?_) (fun h => ?_)
  · refine J_map (f := Sum.inr) (fun _ h => h) ?_
    refine J_aload_n rfl rfl (show Dc Y_X12_blendOf 172 (.aload_n 0) 1 173 from ⟨by decide +kernel, rfl⟩) ?_
    refine J_getR (show Dc Y_X12_blendOf 173 (.getfield 69) 3 176 from ⟨by decide +kernel, rfl⟩) w_f_RX12_69 rfl (fun v1 => ?_)
    refine J_iload_n rfl rfl (show Dc Y_X12_blendOf 176 (.iload_n 3) 1 177 from ⟨by decide +kernel, rfl⟩) ?_
    refine J_iald (show Dc Y_X12_blendOf 177 (.iaload) 1 178 from ⟨by decide +kernel, rfl⟩) (fun v2 => ?_)
    refine J_if_ne (tg := 185) (show Dc Y_X12_blendOf 178 (.ifCond .ne 7) 3 181 from ⟨by decide +kernel, rfl⟩) (by decide) (fun h => ?_) (fun h => ?_)
    · refine J_aload_n rfl rfl (show Dc Y_X12_blendOf 185 (.aload_n 0) 1 186 from ⟨by decide +kernel, rfl⟩) ?_
      refine J_getR (show Dc Y_X12_blendOf 186 (.getfield 69) 3 189 from ⟨by decide +kernel, rfl⟩) w_f_RX12_69 rfl (fun v3 => ?_)
      refine J_iload_n rfl rfl (show Dc Y_X12_blendOf 189 (.iload_n 3) 1 190 from ⟨by decide +kernel, rfl⟩) ?_
      refine J_iald (show Dc Y_X12_blendOf 190 (.iaload) 1 191 from ⟨by decide +kernel, rfl⟩) (fun v4 => ?_)
      refine J_callSi (fun r => r) (fun _ => g) (show Dc Y_X12_blendOf 191 (.invokestatic 335) 3 194 from ⟨by decide +kernel, rfl⟩) w_m_RX12_335 w_st_J6_numberOfTrailingZeros_0f7a4 w_cw_J6_numberOfTrailingZeros_0f7a4 (c_J6_numberOfTrailingZeros_0f7a4 v4 g) rfl rfl (by decide) (Nat.le_of_ble_eq_true rfl) (by decide) (by decide) (fun v5 => ?_)
      refine J_mask [false, false, false, false, false, false] ?_
      exact j_X12_blendOf_194 (K := fun o => K (.inr o)) N v5 g h0
    · refine J_iconst (-1 : Int32) rfl (show Dc Y_X12_blendOf 181 (.iconst (-1)) 1 182 from ⟨by decide +kernel, rfl⟩) ?_
      refine J_goto (tg := 194) (show Dc Y_X12_blendOf 182 (.goto 12) 3 185 from ⟨by decide +kernel, rfl⟩) (by decide) ?_
      refine J_mask [false, false, false, false, false, false] ?_
      exact j_X12_blendOf_194 (K := fun o => K (.inr o)) N (-1 : Int32) g h0
  · refine J_aload_n rfl rfl (show Dc Y_X12_blendOf 16 (.aload_n 0) 1 17 from ⟨by decide +kernel, rfl⟩) ?_
    refine J_getR (show Dc Y_X12_blendOf 17 (.getfield 69) 3 20 from ⟨by decide +kernel, rfl⟩) w_f_RX12_69 rfl (fun v6 => ?_)
    refine J_iload rfl (show Dc Y_X12_blendOf 20 (.iload 4) 2 22 from ⟨by decide +kernel, rfl⟩) ?_
    refine J_iconst (1 : Int32) rfl (show Dc Y_X12_blendOf 22 (.iconst 1) 1 23 from ⟨by decide +kernel, rfl⟩) ?_
    refine J_iadd (show Dc Y_X12_blendOf 23 (.iadd) 1 24 from ⟨by decide +kernel, rfl⟩) ?_
    refine J_iconst (0 : Int32) rfl (show Dc Y_X12_blendOf 24 (.iconst 0) 1 25 from ⟨by decide +kernel, rfl⟩) ?_
    refine J_iast (show Dc Y_X12_blendOf 25 (.iastore) 1 26 from ⟨by decide +kernel, rfl⟩) (fun g7 => ?_)
    refine J_iconst (0 : Int32) rfl (show Dc Y_X12_blendOf 26 (.iconst 0) 1 27 from ⟨by decide +kernel, rfl⟩) ?_
    refine J_istore [some (.ref x0), some (.int x1), some (.int x2), some (.int x3), some (.int x4), some (.int (0 : Int32))] (show Dc Y_X12_blendOf 27 (.istore 5) 2 29 from ⟨by decide +kernel, rfl⟩) (by decide) rfl rfl ?_
    exact J_loop (X := X) (K := K) (uc := fun _ => 0) (us := fun _ => 0) (lf := fun s => [some (.ref x0), some (.int x1), some (.int x2), some (.int x3), some (.int x4), some (.int s.1)]) (gf := fun s => s.2) (fun s => j_X12_blendOf_29 (K := zKl Y_X12_blendOf X 29 (fun _ => 0) (fun _ => 0) (fun s => [some (.ref x0), some (.int x1), some (.int x2), some (.int x3), some (.int x4), some (.int s.1)]) (fun s => s.2) K) N x0 x1 x2 x3 x4 s.1 s.2 h0 hL10 (fun s h => h)) N ((0 : Int32), g7)

theorem j_X12_blendOf {X : ZX} (N : Nat) (x0 : Nat) (x1 : Int32) (x2 : Int32) (x3 : Int32)   (g : ZS) {K : (Int32 × ZS) → Prop} (h0 : ∀ v g, K (v, g) → xK X (some (.int v)) g) : J Y_X12_blendOf X 0 0 0 [some (.ref x0), some (.int x1), some (.int x2), some (.int x3), none, none] [] g (f_X12_blendOf N x0 x1 x2 x3 g) K := by
  unfold f_X12_blendOf
  refine J_aload_n rfl rfl (show Dc Y_X12_blendOf 0 (.aload_n 0) 1 1 from ⟨by decide +kernel, rfl⟩) ?_
  refine J_getR (show Dc Y_X12_blendOf 1 (.getfield 69) 3 4 from ⟨by decide +kernel, rfl⟩) w_f_RX12_69 rfl (fun v1 => ?_)
  refine J_iconst (0 : Int32) rfl (show Dc Y_X12_blendOf 4 (.iconst 0) 1 5 from ⟨by decide +kernel, rfl⟩) ?_
  refine J_iconst (1 : Int32) rfl (show Dc Y_X12_blendOf 5 (.iconst 1) 1 6 from ⟨by decide +kernel, rfl⟩) ?_
  refine J_iast (show Dc Y_X12_blendOf 6 (.iastore) 1 7 from ⟨by decide +kernel, rfl⟩) (fun g2 => ?_)
  refine J_iconst (0 : Int32) rfl (show Dc Y_X12_blendOf 7 (.iconst 0) 1 8 from ⟨by decide +kernel, rfl⟩) ?_
  refine J_istore [some (.ref x0), some (.int x1), some (.int x2), some (.int x3), some (.int (0 : Int32)), none] (show Dc Y_X12_blendOf 8 (.istore 4) 2 10 from ⟨by decide +kernel, rfl⟩) (by decide) rfl rfl ?_
  exact J_loop (X := X) (K := K) (uc := fun _ => 0) (us := fun _ => 0) (lf := fun s => [some (.ref x0), some (.int x1), some (.int x2), some (.int x3), some (.int s.1), none]) (gf := fun s => s.2) (fun s => j_X12_blendOf_10 (K := zKl Y_X12_blendOf X 10 (fun _ => 0) (fun _ => 0) (fun s => [some (.ref x0), some (.int x1), some (.int x2), some (.int x3), some (.int s.1), none]) (fun s => s.2) K) N x0 x1 x2 x3 s.1 s.2 h0 (fun s h => h)) N ((0 : Int32), g2)

theorem c_X12_blendOf {l : Launch} {D : ZD} {B0 : Nat} (N : Nat) (x0 : Nat) (x1 : Int32) (x2 : Int32) (x3 : Int32) (g : ZS) : ∀ r, f_X12_blendOf N x0 x1 x2 x3 g = some r → zCt l D B0 yX12_blendOf Y_X12_blendOf [.ref x0, .int x1, .int x2, .int x3] g (some (.int r.1)) r.2 :=
  zCt_ofF (vo := fun r => some (.int r.1)) (so := fun r => r.2) (by decide +kernel) rfl (fun h => by cases h) rfl (Nat.le_of_ble_eq_true rfl) (fun X => j_X12_blendOf N x0 x1 x2 x3 g (fun _ _ h => h))

theorem j_X12_blend_24 {X : ZX} (N : Nat) (x0 : Nat)   (g : ZS) {K : (Int32 × ZS) → Prop} (h0 : ∀ v g, K (v, g) → xK X (some (.int v)) g) : J Y_X12_blend X 0 0 24 [some (.ref x0), none, none, none, none] [] g (f_X12_blend_24 N x0 g) K := by
  unfold f_X12_blend_24
  refine J_aload_n rfl rfl (show Dc Y_X12_blend 24 (.aload_n 0) 1 25 from ⟨by decide +kernel, rfl⟩) ?_
  refine J_iconst (0 : Int32) rfl (show Dc Y_X12_blend 25 (.iconst 0) 1 26 from ⟨by decide +kernel, rfl⟩) ?_
  refine J_putI (show Dc Y_X12_blend 26 (.putfield 123) 3 29 from ⟨by decide +kernel, rfl⟩) w_f_RX12_123 rfl rfl (fun g1 => ?_) (fun h => by cases h)
  refine J_bipush (-100 : Int32) rfl (show Dc Y_X12_blend 29 (.bipush (-100)) 2 31 from ⟨by decide +kernel, rfl⟩) ?_
  exact J_reti (show Dc Y_X12_blend 31 (.ireturn) 1 32 from ⟨by decide +kernel, rfl⟩) rfl (h0 _ _) (by decide) (by decide)

theorem j_X12_blend {X : ZX} (N : Nat) (x0 : Nat) (x1 : Int32) (x2 : Int32)   (g : ZS) {K : (Int32 × ZS) → Prop} (h0 : ∀ v g, K (v, g) → xK X (some (.int v)) g) : J Y_X12_blend X 0 0 0 [some (.ref x0), some (.int x1), some (.int x2), none, none] [] g (f_X12_blend N x0 x1 x2 g) K := by
  unfold f_X12_blend
  refine J_aload_n rfl rfl (show Dc Y_X12_blend 0 (.aload_n 0) 1 1 from ⟨by decide +kernel, rfl⟩) ?_
  refine J_iconst (0 : Int32) rfl (show Dc Y_X12_blend 1 (.iconst 0) 1 2 from ⟨by decide +kernel, rfl⟩) ?_
  refine J_putI (show Dc Y_X12_blend 2 (.putfield 109) 3 5 from ⟨by decide +kernel, rfl⟩) w_f_RX12_109 rfl rfl (fun g1 => ?_) (fun h => by cases h)
  refine J_iload_n rfl rfl (show Dc Y_X12_blend 5 (.iload_n 1) 1 6 from ⟨by decide +kernel, rfl⟩) ?_
  refine J_callSi (fun r => r) (fun _ => g1) (show Dc Y_X12_blend 6 (.invokestatic 171) 3 9 from ⟨by decide +kernel, rfl⟩) w_m_RX12_171 w_st_X12_isHouse w_cw_X12_isHouse (c_X12_isHouse x1 g1) rfl rfl (by decide) (Nat.le_of_ble_eq_true rfl) (by decide) (by decide) (fun v2 => ?_)
  refine J_if_eq (tg := 24) (show Dc Y_X12_blend 9 (.ifCond .eq 15) 3 12 from ⟨by decide +kernel, rfl⟩) (by decide) (fun h => ?_) (fun h => ?_)
  · refine J_mask [true, false, false, false, false] ?_
    exact j_X12_blend_24 N x0 g1 h0
  · refine J_iload_n rfl rfl (show Dc Y_X12_blend 12 (.iload_n 2) 1 13 from ⟨by decide +kernel, rfl⟩) ?_
    refine J_callSi (fun r => r) (fun _ => g1) (show Dc Y_X12_blend 13 (.invokestatic 171) 3 16 from ⟨by decide +kernel, rfl⟩) w_m_RX12_171 w_st_X12_isHouse w_cw_X12_isHouse (c_X12_isHouse x2 g1) rfl rfl (by decide) (Nat.le_of_ble_eq_true rfl) (by decide) (by decide) (fun v3 => ?_)
    refine J_if_eq (tg := 24) (show Dc Y_X12_blend 16 (.ifCond .eq 8) 3 19 from ⟨by decide +kernel, rfl⟩) (by decide) (fun h => ?_) (fun h => ?_)
    · refine J_mask [true, false, false, false, false] ?_
      exact j_X12_blend_24 N x0 g1 h0
    · refine J_iload_n rfl rfl (show Dc Y_X12_blend 19 (.iload_n 1) 1 20 from ⟨by decide +kernel, rfl⟩) ?_
      refine J_iload_n rfl rfl (show Dc Y_X12_blend 20 (.iload_n 2) 1 21 from ⟨by decide +kernel, rfl⟩) ?_
      refine J_icmp_ne (tg := 32) (show Dc Y_X12_blend 21 (.if_icmp .ne 11) 3 24 from ⟨by decide +kernel, rfl⟩) (by decide) (fun h => ?_) (fun h => ?_)
      · refine J_aload_n rfl rfl (show Dc Y_X12_blend 32 (.aload_n 0) 1 33 from ⟨by decide +kernel, rfl⟩) ?_
        refine J_iconst (0 : Int32) rfl (show Dc Y_X12_blend 33 (.iconst 0) 1 34 from ⟨by decide +kernel, rfl⟩) ?_
        refine J_callVi (fun r => r.1) (fun r => r.2) (show Dc Y_X12_blend 34 (.invokevirtual 175) 3 37 from ⟨by decide +kernel, rfl⟩) w_m_RX12_175 w_in_X12_readWords rfl w_se_X12_readWords w_cw_X12_readWords (c_X12_readWords N x0 (0 : Int32) g1) rfl rfl (by decide) (Nat.le_of_ble_eq_true rfl) (by decide) (by decide) (fun r4 => ?_)
        refine J_istore_n [some (.ref x0), some (.int x1), some (.int x2), some (.int r4.1), none] (show Dc Y_X12_blend 37 (.istore_n 3) 1 38 from ⟨by decide +kernel, rfl⟩) rfl (by decide) rfl rfl ?_
        refine J_iload_n rfl rfl (show Dc Y_X12_blend 38 (.iload_n 3) 1 39 from ⟨by decide +kernel, rfl⟩) ?_
        refine J_if_ge (tg := 44) (show Dc Y_X12_blend 39 (.ifCond .ge 5) 3 42 from ⟨by decide +kernel, rfl⟩) (by decide) (fun h => ?_) (fun h => ?_)
        · refine J_aload_n rfl rfl (show Dc Y_X12_blend 44 (.aload_n 0) 1 45 from ⟨by decide +kernel, rfl⟩) ?_
          refine J_iload_n rfl rfl (show Dc Y_X12_blend 45 (.iload_n 1) 1 46 from ⟨by decide +kernel, rfl⟩) ?_
          refine J_iload_n rfl rfl (show Dc Y_X12_blend 46 (.iload_n 2) 1 47 from ⟨by decide +kernel, rfl⟩) ?_
          refine J_iload_n rfl rfl (show Dc Y_X12_blend 47 (.iload_n 3) 1 48 from ⟨by decide +kernel, rfl⟩) ?_
          refine J_callVi (fun r => r.1) (fun r => r.2) (show Dc Y_X12_blend 48 (.invokevirtual 338) 3 51 from ⟨by decide +kernel, rfl⟩) w_m_RX12_338 w_in_X12_blendOf rfl w_se_X12_blendOf w_cw_X12_blendOf (c_X12_blendOf N x0 x1 x2 r4.1 r4.2) rfl rfl (by decide) (Nat.le_of_ble_eq_true rfl) (by decide) (by decide) (fun r5 => ?_)
          refine J_istore [some (.ref x0), some (.int x1), some (.int x2), some (.int r4.1), some (.int r5.1)] (show Dc Y_X12_blend 51 (.istore 4) 2 53 from ⟨by decide +kernel, rfl⟩) (by decide) rfl rfl ?_
          refine J_iload rfl (show Dc Y_X12_blend 53 (.iload 4) 2 55 from ⟨by decide +kernel, rfl⟩) ?_
          refine J_iconst (-1 : Int32) rfl (show Dc Y_X12_blend 55 (.iconst (-1)) 1 56 from ⟨by decide +kernel, rfl⟩) ?_
          refine J_icmp_ne (tg := 61) (show Dc Y_X12_blend 56 (.if_icmp .ne 5) 3 59 from ⟨by decide +kernel, rfl⟩) (by decide) (fun h => ?_) (fun h => ?_)
          · refine J_aload_n rfl rfl (show Dc Y_X12_blend 61 (.aload_n 0) 1 62 from ⟨by decide +kernel, rfl⟩) ?_
            refine J_iconst (0 : Int32) rfl (show Dc Y_X12_blend 62 (.iconst 0) 1 63 from ⟨by decide +kernel, rfl⟩) ?_
            refine J_putI (show Dc Y_X12_blend 63 (.putfield 113) 3 66 from ⟨by decide +kernel, rfl⟩) w_f_RX12_113 rfl rfl (fun g6 => ?_) (fun h => by cases h)
            refine J_aload_n rfl rfl (show Dc Y_X12_blend 66 (.aload_n 0) 1 67 from ⟨by decide +kernel, rfl⟩) ?_
            refine J_iload rfl (show Dc Y_X12_blend 67 (.iload 4) 2 69 from ⟨by decide +kernel, rfl⟩) ?_
            refine J_i2l (show Dc Y_X12_blend 69 (.i2l) 1 70 from ⟨by decide +kernel, rfl⟩) ?_
            refine J_callVv (fun r => r) (show Dc Y_X12_blend 70 (.invokevirtual 274) 3 73 from ⟨by decide +kernel, rfl⟩) w_m_RX12_274 w_in_X12_tell rfl w_se_X12_tell w_cw_X12_tell (c_X12_tell x0 r5.1.toInt64 g6) rfl rfl (by decide) (Nat.le_of_ble_eq_true rfl) (by decide) (by decide) (fun g7 => ?_)
            refine J_iconst (1 : Int32) rfl (show Dc Y_X12_blend 73 (.iconst 1) 1 74 from ⟨by decide +kernel, rfl⟩) ?_
            exact J_reti (show Dc Y_X12_blend 74 (.ireturn) 1 75 from ⟨by decide +kernel, rfl⟩) rfl (h0 _ _) (by decide) (by decide)
          · refine J_iconst (0 : Int32) rfl (show Dc Y_X12_blend 59 (.iconst 0) 1 60 from ⟨by decide +kernel, rfl⟩) ?_
            exact J_reti (show Dc Y_X12_blend 60 (.ireturn) 1 61 from ⟨by decide +kernel, rfl⟩) rfl (h0 _ _) (by decide) (by decide)
        · refine J_iload_n rfl rfl (show Dc Y_X12_blend 42 (.iload_n 3) 1 43 from ⟨by decide +kernel, rfl⟩) ?_
          exact J_reti (show Dc Y_X12_blend 43 (.ireturn) 1 44 from ⟨by decide +kernel, rfl⟩) rfl (h0 _ _) (by decide) (by decide)
      · refine J_mask [true, false, false, false, false] ?_
        exact j_X12_blend_24 N x0 g1 h0

theorem c_X12_blend {l : Launch} {D : ZD} {B0 : Nat} (N : Nat) (x0 : Nat) (x1 : Int32) (x2 : Int32) (g : ZS) : ∀ r, f_X12_blend N x0 x1 x2 g = some r → zCt l D B0 yX12_blend Y_X12_blend [.ref x0, .int x1, .int x2] g (some (.int r.1)) r.2 :=
  zCt_ofF (vo := fun r => some (.int r.1)) (so := fun r => r.2) (by decide +kernel) rfl (fun h => by cases h) rfl (Nat.le_of_ble_eq_true rfl) (fun X => j_X12_blend N x0 x1 x2 g (fun _ _ h => h))

theorem j_X11_findSource_61 {X : ZX} (N : Nat) (x0 : Nat) (x1 : Int32) (x2 : Int32) (x3 : Int32) (x4 : Int32)   (g : ZS) {K : ((Int32 × Int32 × Int32) ⊕ ((Int32 × Int32 × Int32) ⊕ (Int32 × ZS))) → Prop} (h0 : ∀ v g, K (.inr (.inr (v, g))) → xK X (some (.int v)) g) (hL8 : ∀ s, K (.inr (.inl s)) → zG Y_X11_findSource X 0 0 8 [some (.ref x0), some (.int s.1), some (.int s.2.1), some (.int s.2.2), none] [] g) (hL18 : ∀ s, K (.inl s) → zG Y_X11_findSource X 0 0 18 [some (.ref x0), some (.int s.1), some (.int s.2.1), some (.int x3), some (.int s.2.2)] [] g) : J Y_X11_findSource X 0 0 61 [some (.ref x0), some (.int x1), some (.int x2), some (.int x3), some (.int x4)] [] g (f_X11_findSource_61 N x0 x1 x2 x3 x4 g) K := by
  unfold f_X11_findSource_61
  refine J_iinc (1 : Int32) [some (.ref x0), some (.int x1), some (.int x2), some (.int x3), some (.int (x4 + (1 : Int32)))] (show Dc Y_X11_findSource 61 (.iinc 4 1) 3 64 from ⟨by decide +kernel, rfl⟩) rfl rfl (by decide) rfl rfl ?_
  refine J_goto (tg := 18) (show Dc Y_X11_findSource 64 (.goto (-46)) 3 67 from ⟨by decide +kernel, rfl⟩) (by decide) ?_
  exact J_leaf (fun h => hL18 (x1, x2, x4 + (1 : Int32)) h)

theorem j_X11_findSource_57 {X : ZX} (N : Nat) (x0 : Nat) (x2 : Int32) (x3 : Int32) (x4 : Int32) (s0 : Int32)  (g : ZS) {K : ((Int32 × Int32 × Int32) ⊕ ((Int32 × Int32 × Int32) ⊕ (Int32 × ZS))) → Prop} (h0 : ∀ v g, K (.inr (.inr (v, g))) → xK X (some (.int v)) g) (hL8 : ∀ s, K (.inr (.inl s)) → zG Y_X11_findSource X 0 0 8 [some (.ref x0), some (.int s.1), some (.int s.2.1), some (.int s.2.2), none] [] g) (hL18 : ∀ s, K (.inl s) → zG Y_X11_findSource X 0 0 18 [some (.ref x0), some (.int s.1), some (.int s.2.1), some (.int x3), some (.int s.2.2)] [] g) : J Y_X11_findSource X 0 0 57 [some (.ref x0), none, some (.int x2), some (.int x3), some (.int x4)] [.int s0] g (f_X11_findSource_57 N x0 x2 x3 x4 s0 g) K := by
  unfold f_X11_findSource_57
  refine J_istore_n [some (.ref x0), some (.int s0), some (.int x2), some (.int x3), some (.int x4)] (show Dc Y_X11_findSource 57 (.istore_n 1) 1 58 from ⟨by decide +kernel, rfl⟩) rfl (by decide) rfl rfl ?_
  refine J_iinc (1 : Int32) [some (.ref x0), some (.int s0), some (.int (x2 + (1 : Int32))), some (.int x3), some (.int x4)] (show Dc Y_X11_findSource 58 (.iinc 2 1) 3 61 from ⟨by decide +kernel, rfl⟩) rfl rfl (by decide) rfl rfl ?_
  exact j_X11_findSource_61 N x0 s0 (x2 + (1 : Int32)) x3 x4 g h0 hL8 hL18

theorem j_X11_findSource_18 {X : ZX} (N : Nat) (x0 : Nat) (x1 : Int32) (x2 : Int32) (x3 : Int32) (x4 : Int32)   (g : ZS) {K : ((Int32 × Int32 × Int32) ⊕ ((Int32 × Int32 × Int32) ⊕ (Int32 × ZS))) → Prop} (h0 : ∀ v g, K (.inr (.inr (v, g))) → xK X (some (.int v)) g) (hL8 : ∀ s, K (.inr (.inl s)) → zG Y_X11_findSource X 0 0 8 [some (.ref x0), some (.int s.1), some (.int s.2.1), some (.int s.2.2), none] [] g) (hL18 : ∀ s, K (.inl s) → zG Y_X11_findSource X 0 0 18 [some (.ref x0), some (.int s.1), some (.int s.2.1), some (.int x3), some (.int s.2.2)] [] g) : J Y_X11_findSource X 0 0 18 [some (.ref x0), some (.int x1), some (.int x2), some (.int x3), some (.int x4)] [] g (f_X11_findSource_18 N x0 x1 x2 x3 x4 g) K := by
  unfold f_X11_findSource_18
  refine J_iload rfl (show Dc Y_X11_findSource 18 (.iload 4) 2 20 from ⟨by decide +kernel, rfl⟩) ?_
  refine J_iconst (4 : Int32) rfl (show Dc Y_X11_findSource 20 (.iconst 4) 1 21 from ⟨by decide +kernel, rfl⟩) ?_
  refine J_icmp_ge (tg := 67) (show Dc Y_X11_findSource 21 (.if_icmp .ge 46) 3 24 from ⟨by decide +kernel, rfl⟩) (by decide) (fun h => ?_) (fun h => ?_)
  · refine J_map (f := Sum.inr) (fun _ h => h) ?_
    refine J_iinc (1 : Int32) [some (.ref x0), some (.int x1), some (.int x2), some (.int (x3 + (1 : Int32))), some (.int x4)] (show Dc Y_X11_findSource 67 (.iinc 3 1) 3 70 from ⟨by decide +kernel, rfl⟩) rfl rfl (by decide) rfl rfl ?_
    refine J_goto (tg := 8) (show Dc Y_X11_findSource 70 (.goto (-62)) 3 73 from ⟨by decide +kernel, rfl⟩) (by decide) ?_
    refine J_mask [true, true, true, true, false] ?_
    exact J_leaf (fun h => hL8 (x1, x2, x3 + (1 : Int32)) h)
  · refine J_aload_n rfl rfl (show Dc Y_X11_findSource 24 (.aload_n 0) 1 25 from ⟨by decide +kernel, rfl⟩) ?_
    refine J_getR (show Dc Y_X11_findSource 25 (.getfield 26) 3 28 from ⟨by decide +kernel, rfl⟩) w_f_RX11_26 rfl (fun v1 => ?_)
    refine J_iload_n rfl rfl (show Dc Y_X11_findSource 28 (.iload_n 3) 1 29 from ⟨by decide +kernel, rfl⟩) ?_
    refine J_iload rfl (show Dc Y_X11_findSource 29 (.iload 4) 2 31 from ⟨by decide +kernel, rfl⟩) ?_
    refine J_aload_n rfl rfl (show Dc Y_X11_findSource 31 (.aload_n 0) 1 32 from ⟨by decide +kernel, rfl⟩) ?_
    refine J_getR (show Dc Y_X11_findSource 32 (.getfield 10) 3 35 from ⟨by decide +kernel, rfl⟩) w_f_RX11_10 rfl (fun v2 => ?_)
    refine J_callVi (fun r => r) (fun _ => g) (show Dc Y_X11_findSource 35 (.invokevirtual 361) 3 38 from ⟨by decide +kernel, rfl⟩) w_m_RX11_361 w_in_X2_fewestOfFirst rfl w_se_X2_fewestOfFirst w_cw_X2_fewestOfFirst (c_X2_fewestOfFirst N v1 x3 x4 v2 g) rfl rfl (by decide) (Nat.le_of_ble_eq_true rfl) (by decide) (by decide) (fun v3 => ?_)
    refine J_iconst (-1 : Int32) rfl (show Dc Y_X11_findSource 38 (.iconst (-1)) 1 39 from ⟨by decide +kernel, rfl⟩) ?_
    refine J_icmp_eq (tg := 61) (show Dc Y_X11_findSource 39 (.if_icmp .eq 22) 3 42 from ⟨by decide +kernel, rfl⟩) (by decide) (fun h => ?_) (fun h => ?_)
    · exact j_X11_findSource_61 N x0 x1 x2 x3 x4 g h0 hL8 hL18
    · refine J_iload_n rfl rfl (show Dc Y_X11_findSource 42 (.iload_n 2) 1 43 from ⟨by decide +kernel, rfl⟩) ?_
      refine J_if_ne (tg := 56) (show Dc Y_X11_findSource 43 (.ifCond .ne 13) 3 46 from ⟨by decide +kernel, rfl⟩) (by decide) (fun h => ?_) (fun h => ?_)
      · refine J_iload_n rfl rfl (show Dc Y_X11_findSource 56 (.iload_n 1) 1 57 from ⟨by decide +kernel, rfl⟩) ?_
        refine J_mask [true, false, true, true, true] ?_
        exact j_X11_findSource_57 N x0 x2 x3 x4 x1 g h0 hL8 hL18
      · refine J_bipush (10 : Int32) rfl (show Dc Y_X11_findSource 46 (.bipush 10) 2 48 from ⟨by decide +kernel, rfl⟩) ?_
        refine J_iload_n rfl rfl (show Dc Y_X11_findSource 48 (.iload_n 3) 1 49 from ⟨by decide +kernel, rfl⟩) ?_
        refine J_imul (show Dc Y_X11_findSource 49 (.imul) 1 50 from ⟨by decide +kernel, rfl⟩) ?_
        refine J_iload rfl (show Dc Y_X11_findSource 50 (.iload 4) 2 52 from ⟨by decide +kernel, rfl⟩) ?_
        refine J_iadd (show Dc Y_X11_findSource 52 (.iadd) 1 53 from ⟨by decide +kernel, rfl⟩) ?_
        refine J_goto (tg := 57) (show Dc Y_X11_findSource 53 (.goto 4) 3 56 from ⟨by decide +kernel, rfl⟩) (by decide) ?_
        refine J_mask [true, false, true, true, true] ?_
        exact j_X11_findSource_57 N x0 x2 x3 x4 (((10 : Int32) * x3) + x4) g h0 hL8 hL18

theorem j_X11_findSource_86 {X : ZX} (N : Nat) (x1 : Int32)   (g : ZS) {K : (Int32 × ZS) → Prop} (h0 : ∀ v g, K (v, g) → xK X (some (.int v)) g) : J Y_X11_findSource X 0 0 86 [none, some (.int x1), none, none, none] [] g (f_X11_findSource_86 N x1 g) K := by
  unfold f_X11_findSource_86
  refine J_iload_n rfl rfl (show Dc Y_X11_findSource 86 (.iload_n 1) 1 87 from ⟨by decide +kernel, rfl⟩) ?_
  exact J_reti (show Dc Y_X11_findSource 87 (.ireturn) 1 88 from ⟨by decide +kernel, rfl⟩) rfl (h0 _ _) (by decide) (by decide)

theorem j_X11_findSource_8 {X : ZX} (N : Nat) (x0 : Nat) (x1 : Int32) (x2 : Int32) (x3 : Int32)   (g : ZS) {K : ((Int32 × Int32 × Int32) ⊕ (Int32 × ZS)) → Prop} (h0 : ∀ v g, K (.inr (v, g)) → xK X (some (.int v)) g) (hL8 : ∀ s, K (.inl s) → zG Y_X11_findSource X 0 0 8 [some (.ref x0), some (.int s.1), some (.int s.2.1), some (.int s.2.2), none] [] g) : J Y_X11_findSource X 0 0 8 [some (.ref x0), some (.int x1), some (.int x2), some (.int x3), none] [] g (f_X11_findSource_8 N x0 x1 x2 x3 g) K := by
  unfold f_X11_findSource_8
  refine J_iload_n rfl rfl (show Dc Y_X11_findSource 8 (.iload_n 3) 1 9 from ⟨by decide +kernel, rfl⟩) ?_
  refine J_iconst (4 : Int32) rfl (show Dc Y_X11_findSource 9 (.iconst 4) 1 10 from ⟨by decide +kernel, rfl⟩) ?_
  refine J_icmp_ge (tg := 73) (show Dc Y_X11_findSource 10 (.if_icmp .ge 63) 3 13 from ⟨by decide +kernel, rfl⟩) (by decide) (fun h => ?_) (fun h => ?_)
  · refine J_map (f := Sum.inr) (fun _ h => h) ?_
    refine J_iload_n rfl rfl (show Dc Y_X11_findSource 73 (.iload_n 2) 1 74 from ⟨by decide +kernel, rfl⟩) ?_
    refine J_if_le (tg := 86) (show Dc Y_X11_findSource 74 (.ifCond .le 12) 3 77 from ⟨by decide +kernel, rfl⟩) (by decide) (fun h => ?_) (fun h => ?_)
    · refine J_mask [false, true, false, false, false] ?_
      exact j_X11_findSource_86 (K := fun o => K (.inr o)) N x1 g h0
    · refine J_aload_n rfl rfl (show Dc Y_X11_findSource 77 (.aload_n 0) 1 78 from ⟨by decide +kernel, rfl⟩) ?_
      refine J_getR (show Dc Y_X11_findSource 78 (.getfield 19) 3 81 from ⟨by decide +kernel, rfl⟩) w_f_RX11_19 rfl (fun v1 => ?_)
      refine J_iload_n rfl rfl (show Dc Y_X11_findSource 81 (.iload_n 2) 1 82 from ⟨by decide +kernel, rfl⟩) ?_
      refine J_i2l (show Dc Y_X11_findSource 82 (.i2l) 1 83 from ⟨by decide +kernel, rfl⟩) ?_
      refine J_callVv (fun r => r) (show Dc Y_X11_findSource 83 (.invokevirtual 339) 3 86 from ⟨by decide +kernel, rfl⟩) w_m_RX11_339 w_in_X9_only rfl w_se_X9_only w_cw_X9_only (c_X9_only v1 x2.toInt64 g) rfl rfl (by decide) (Nat.le_of_ble_eq_true rfl) (by decide) (by decide) (fun g2 => ?_)
      refine J_mask [false, true, false, false, false] ?_
      exact j_X11_findSource_86 (K := fun o => K (.inr o)) N x1 g2 h0
  · refine J_iload_n rfl rfl (show Dc Y_X11_findSource 13 (.iload_n 3) 1 14 from ⟨by decide +kernel, rfl⟩) ?_
    refine J_iconst (1 : Int32) rfl (show Dc Y_X11_findSource 14 (.iconst 1) 1 15 from ⟨by decide +kernel, rfl⟩) ?_
    refine J_iadd (show Dc Y_X11_findSource 15 (.iadd) 1 16 from ⟨by decide +kernel, rfl⟩) ?_
    refine J_istore [some (.ref x0), some (.int x1), some (.int x2), some (.int x3), some (.int (x3 + (1 : Int32)))] (show Dc Y_X11_findSource 16 (.istore 4) 2 18 from ⟨by decide +kernel, rfl⟩) (by decide) rfl rfl ?_
    exact J_loop (X := X) (K := K) (uc := fun _ => 0) (us := fun _ => 0) (lf := fun s => [some (.ref x0), some (.int s.1), some (.int s.2.1), some (.int x3), some (.int s.2.2)]) (gf := fun s => g) (fun s => j_X11_findSource_18 (K := zKl Y_X11_findSource X 18 (fun _ => 0) (fun _ => 0) (fun s => [some (.ref x0), some (.int s.1), some (.int s.2.1), some (.int x3), some (.int s.2.2)]) (fun s => g) K) N x0 s.1 s.2.1 x3 s.2.2 g h0 hL8 (fun s h => h)) N (x1, x2, x3 + (1 : Int32))

theorem j_X11_findSource {X : ZX} (N : Nat) (x0 : Nat)   (g : ZS) {K : (Int32 × ZS) → Prop} (h0 : ∀ v g, K (v, g) → xK X (some (.int v)) g) : J Y_X11_findSource X 0 0 0 [some (.ref x0), none, none, none, none] [] g (f_X11_findSource N x0 g) K := by
  unfold f_X11_findSource
  refine J_sipush (-200 : Int32) rfl (show Dc Y_X11_findSource 0 (.sipush (-200)) 3 3 from ⟨by decide +kernel, rfl⟩) ?_
  refine J_istore_n [some (.ref x0), some (.int (-200 : Int32)), none, none, none] (show Dc Y_X11_findSource 3 (.istore_n 1) 1 4 from ⟨by decide +kernel, rfl⟩) rfl (by decide) rfl rfl ?_
  refine J_iconst (0 : Int32) rfl (show Dc Y_X11_findSource 4 (.iconst 0) 1 5 from ⟨by decide +kernel, rfl⟩) ?_
  refine J_istore_n [some (.ref x0), some (.int (-200 : Int32)), some (.int (0 : Int32)), none, none] (show Dc Y_X11_findSource 5 (.istore_n 2) 1 6 from ⟨by decide +kernel, rfl⟩) rfl (by decide) rfl rfl ?_
  refine J_iconst (0 : Int32) rfl (show Dc Y_X11_findSource 6 (.iconst 0) 1 7 from ⟨by decide +kernel, rfl⟩) ?_
  refine J_istore_n [some (.ref x0), some (.int (-200 : Int32)), some (.int (0 : Int32)), some (.int (0 : Int32)), none] (show Dc Y_X11_findSource 7 (.istore_n 3) 1 8 from ⟨by decide +kernel, rfl⟩) rfl (by decide) rfl rfl ?_
  exact J_loop (X := X) (K := K) (uc := fun _ => 0) (us := fun _ => 0) (lf := fun s => [some (.ref x0), some (.int s.1), some (.int s.2.1), some (.int s.2.2), none]) (gf := fun s => g) (fun s => j_X11_findSource_8 (K := zKl Y_X11_findSource X 8 (fun _ => 0) (fun _ => 0) (fun s => [some (.ref x0), some (.int s.1), some (.int s.2.1), some (.int s.2.2), none]) (fun s => g) K) N x0 s.1 s.2.1 s.2.2 g h0 (fun s h => h)) N ((-200 : Int32), (0 : Int32), (0 : Int32))

theorem c_X11_findSource {l : Launch} {D : ZD} {B0 : Nat} (N : Nat) (x0 : Nat) (g : ZS) : ∀ r, f_X11_findSource N x0 g = some r → zCt l D B0 yX11_findSource Y_X11_findSource [.ref x0] g (some (.int r.1)) r.2 :=
  zCt_ofF (vo := fun r => some (.int r.1)) (so := fun r => r.2) (by decide +kernel) rfl (fun h => by cases h) rfl (Nat.le_of_ble_eq_true rfl) (fun X => j_X11_findSource N x0 g (fun _ _ h => h))

theorem j_X11_source_23 {X : ZX} (N : Nat) (x0 : Nat) (s0 : Int32)  (g : ZS) {K : (Int32 × ZS) → Prop} (h0 : ∀ v g, K (v, g) → xK X (some (.int v)) g) : J Y_X11_source X 0 0 23 [some (.ref x0), none, none] [.int s0] g (f_X11_source_23 N x0 s0 g) K := by
  unfold f_X11_source_23
  refine J_istore_n [some (.ref x0), none, some (.int s0)] (show Dc Y_X11_source 23 (.istore_n 2) 1 24 from ⟨by decide +kernel, rfl⟩) rfl (by decide) rfl rfl ?_
  refine J_aload_n rfl rfl (show Dc Y_X11_source 24 (.aload_n 0) 1 25 from ⟨by decide +kernel, rfl⟩) ?_
  refine J_getR (show Dc Y_X11_source 25 (.getfield 10) 3 28 from ⟨by decide +kernel, rfl⟩) w_f_RX11_10 rfl (fun v1 => ?_)
  refine J_iconst (0 : Int32) rfl (show Dc Y_X11_source 28 (.iconst 0) 1 29 from ⟨by decide +kernel, rfl⟩) ?_
  refine J_putI (show Dc Y_X11_source 29 (.putfield 110) 3 32 from ⟨by decide +kernel, rfl⟩) w_f_RX11_110 rfl rfl (fun g2 => ?_) (fun h => by cases h)
  refine J_iload_n rfl rfl (show Dc Y_X11_source 32 (.iload_n 2) 1 33 from ⟨by decide +kernel, rfl⟩) ?_
  exact J_reti (show Dc Y_X11_source 33 (.ireturn) 1 34 from ⟨by decide +kernel, rfl⟩) rfl (h0 _ _) (by decide) (by decide)

theorem j_X11_source {X : ZX} (N : Nat) (x0 : Nat)   (g : ZS) {K : (Int32 × ZS) → Prop} (h0 : ∀ v g, K (v, g) → xK X (some (.int v)) g) : J Y_X11_source X 0 0 0 [some (.ref x0), none, none] [] g (f_X11_source N x0 g) K := by
  unfold f_X11_source
  refine J_aload_n rfl rfl (show Dc Y_X11_source 0 (.aload_n 0) 1 1 from ⟨by decide +kernel, rfl⟩) ?_
  refine J_getR (show Dc Y_X11_source 1 (.getfield 10) 3 4 from ⟨by decide +kernel, rfl⟩) w_f_RX11_10 rfl (fun v1 => ?_)
  refine J_callVi (fun r => r) (fun _ => g) (show Dc Y_X11_source 4 (.invokevirtual 121) 3 7 from ⟨by decide +kernel, rfl⟩) w_m_RX11_121 w_in_X8_badInTale rfl w_se_X8_badInTale w_cw_X8_badInTale (c_X8_badInTale N v1 g) rfl rfl (by decide) (Nat.le_of_ble_eq_true rfl) (by decide) (by decide) (fun v2 => ?_)
  refine J_istore_n [some (.ref x0), some (.int v2), none] (show Dc Y_X11_source 7 (.istore_n 1) 1 8 from ⟨by decide +kernel, rfl⟩) rfl (by decide) rfl rfl ?_
  refine J_iload_n rfl rfl (show Dc Y_X11_source 8 (.iload_n 1) 1 9 from ⟨by decide +kernel, rfl⟩) ?_
  refine J_iconst (-1 : Int32) rfl (show Dc Y_X11_source 9 (.iconst (-1)) 1 10 from ⟨by decide +kernel, rfl⟩) ?_
  refine J_icmp_ne (tg := 20) (show Dc Y_X11_source 10 (.if_icmp .ne 10) 3 13 from ⟨by decide +kernel, rfl⟩) (by decide) (fun h => ?_) (fun h => ?_)
  · refine J_iconst (-1 : Int32) rfl (show Dc Y_X11_source 20 (.iconst (-1)) 1 21 from ⟨by decide +kernel, rfl⟩) ?_
    refine J_iload_n rfl rfl (show Dc Y_X11_source 21 (.iload_n 1) 1 22 from ⟨by decide +kernel, rfl⟩) ?_
    refine J_isub (show Dc Y_X11_source 22 (.isub) 1 23 from ⟨by decide +kernel, rfl⟩) ?_
    refine J_mask [true, false, false] ?_
    exact j_X11_source_23 N x0 ((-1 : Int32) - v2) g h0
  · refine J_aload_n rfl rfl (show Dc Y_X11_source 13 (.aload_n 0) 1 14 from ⟨by decide +kernel, rfl⟩) ?_
    refine J_callVi (fun r => r.1) (fun r => r.2) (show Dc Y_X11_source 14 (.invokevirtual 365) 3 17 from ⟨by decide +kernel, rfl⟩) w_m_RX11_365 w_in_X11_findSource rfl w_se_X11_findSource w_cw_X11_findSource (c_X11_findSource N x0 g) rfl rfl (by decide) (Nat.le_of_ble_eq_true rfl) (by decide) (by decide) (fun r3 => ?_)
    refine J_goto (tg := 23) (show Dc Y_X11_source 17 (.goto 6) 3 20 from ⟨by decide +kernel, rfl⟩) (by decide) ?_
    refine J_mask [true, false, false] ?_
    exact j_X11_source_23 N x0 r3.1 r3.2 h0

theorem c_X11_source {l : Launch} {D : ZD} {B0 : Nat} (N : Nat) (x0 : Nat) (g : ZS) : ∀ r, f_X11_source N x0 g = some r → zCt l D B0 yX11_source Y_X11_source [.ref x0] g (some (.int r.1)) r.2 :=
  zCt_ofF (vo := fun r => some (.int r.1)) (so := fun r => r.2) (by decide +kernel) rfl (fun h => by cases h) rfl (Nat.le_of_ble_eq_true rfl) (fun X => j_X11_source N x0 g (fun _ _ h => h))

theorem j_X12_source_78 {X : ZX} (N : Nat) (x0 : Nat) (x1 : Int32) (x2 : Int32) (x3 : Int32) (x4 : Int32) (x5 : Int32)   (g : ZS) {K : ((Int32 × Int32 × Int32 × ZS) ⊕ ((Int32 × Int32 × Int32 × ZS) ⊕ (Int32 × ZS))) → Prop} (h0 : ∀ v g, K (.inr (.inr (v, g))) → xK X (some (.int v)) g) (hL24 : ∀ s, K (.inr (.inl s)) → zG Y_X12_source X 0 0 24 [some (.ref x0), some (.int x1), some (.int s.1), some (.int s.2.1), some (.int s.2.2.1), none] [] s.2.2.2) (hL36 : ∀ s, K (.inl s) → zG Y_X12_source X 0 0 36 [some (.ref x0), some (.int x1), some (.int s.1), some (.int s.2.1), some (.int x4), some (.int s.2.2.1)] [] s.2.2.2) : J Y_X12_source X 0 0 78 [some (.ref x0), some (.int x1), some (.int x2), some (.int x3), some (.int x4), some (.int x5)] [] g (f_X12_source_78 N x0 x1 x2 x3 x4 x5 g) K := by
  unfold f_X12_source_78
  refine J_iinc (1 : Int32) [some (.ref x0), some (.int x1), some (.int x2), some (.int x3), some (.int x4), some (.int (x5 + (1 : Int32)))] (show Dc Y_X12_source 78 (.iinc 5 1) 3 81 from ⟨by decide +kernel, rfl⟩) rfl rfl (by decide) rfl rfl ?_
  refine J_goto (tg := 36) (show Dc Y_X12_source 81 (.goto (-45)) 3 84 from ⟨by decide +kernel, rfl⟩) (by decide) ?_
  exact J_leaf (fun h => hL36 (x2, x3, x5 + (1 : Int32), g) h)

theorem j_X12_source_74 {X : ZX} (N : Nat) (x0 : Nat) (x1 : Int32) (x3 : Int32) (x4 : Int32) (x5 : Int32) (s0 : Int32)  (g : ZS) {K : ((Int32 × Int32 × Int32 × ZS) ⊕ ((Int32 × Int32 × Int32 × ZS) ⊕ (Int32 × ZS))) → Prop} (h0 : ∀ v g, K (.inr (.inr (v, g))) → xK X (some (.int v)) g) (hL24 : ∀ s, K (.inr (.inl s)) → zG Y_X12_source X 0 0 24 [some (.ref x0), some (.int x1), some (.int s.1), some (.int s.2.1), some (.int s.2.2.1), none] [] s.2.2.2) (hL36 : ∀ s, K (.inl s) → zG Y_X12_source X 0 0 36 [some (.ref x0), some (.int x1), some (.int s.1), some (.int s.2.1), some (.int x4), some (.int s.2.2.1)] [] s.2.2.2) : J Y_X12_source X 0 0 74 [some (.ref x0), some (.int x1), none, some (.int x3), some (.int x4), some (.int x5)] [.int s0] g (f_X12_source_74 N x0 x1 x3 x4 x5 s0 g) K := by
  unfold f_X12_source_74
  refine J_istore_n [some (.ref x0), some (.int x1), some (.int s0), some (.int x3), some (.int x4), some (.int x5)] (show Dc Y_X12_source 74 (.istore_n 2) 1 75 from ⟨by decide +kernel, rfl⟩) rfl (by decide) rfl rfl ?_
  refine J_iinc (1 : Int32) [some (.ref x0), some (.int x1), some (.int s0), some (.int (x3 + (1 : Int32))), some (.int x4), some (.int x5)] (show Dc Y_X12_source 75 (.iinc 3 1) 3 78 from ⟨by decide +kernel, rfl⟩) rfl rfl (by decide) rfl rfl ?_
  exact j_X12_source_78 N x0 x1 s0 (x3 + (1 : Int32)) x4 x5 g h0 hL24 hL36

theorem j_X12_source_36 {X : ZX} (N : Nat) (x0 : Nat) (x1 : Int32) (x2 : Int32) (x3 : Int32) (x4 : Int32) (x5 : Int32)   (g : ZS) {K : ((Int32 × Int32 × Int32 × ZS) ⊕ ((Int32 × Int32 × Int32 × ZS) ⊕ (Int32 × ZS))) → Prop} (h0 : ∀ v g, K (.inr (.inr (v, g))) → xK X (some (.int v)) g) (hL24 : ∀ s, K (.inr (.inl s)) → zG Y_X12_source X 0 0 24 [some (.ref x0), some (.int x1), some (.int s.1), some (.int s.2.1), some (.int s.2.2.1), none] [] s.2.2.2) (hL36 : ∀ s, K (.inl s) → zG Y_X12_source X 0 0 36 [some (.ref x0), some (.int x1), some (.int s.1), some (.int s.2.1), some (.int x4), some (.int s.2.2.1)] [] s.2.2.2) : J Y_X12_source X 0 0 36 [some (.ref x0), some (.int x1), some (.int x2), some (.int x3), some (.int x4), some (.int x5)] [] g (f_X12_source_36 N x0 x1 x2 x3 x4 x5 g) K := by
  unfold f_X12_source_36
  refine J_iload rfl (show Dc Y_X12_source 36 (.iload 5) 2 38 from ⟨by decide +kernel, rfl⟩) ?_
  refine J_iconst (4 : Int32) rfl (show Dc Y_X12_source 38 (.iconst 4) 1 39 from ⟨by decide +kernel, rfl⟩) ?_
  refine J_icmp_ge (tg := 84) (show Dc Y_X12_source 39 (.if_icmp .ge 45) 3 42 from ⟨by decide +kernel, rfl⟩) (by decide) (fun h => ?_) (fun h => ?_)
  · refine J_map (f := Sum.inr) (fun _ h => h) ?_
    refine J_iinc (1 : Int32) [some (.ref x0), some (.int x1), some (.int x2), some (.int x3), some (.int (x4 + (1 : Int32))), some (.int x5)] (show Dc Y_X12_source 84 (.iinc 4 1) 3 87 from ⟨by decide +kernel, rfl⟩) rfl rfl (by decide) rfl rfl ?_
    refine J_goto (tg := 24) (show Dc Y_X12_source 87 (.goto (-63)) 3 90 from ⟨by decide +kernel, rfl⟩) (by decide) ?_
    refine J_mask [true, true, true, true, true, false] ?_
    exact J_leaf (fun h => hL24 (x2, x3, x4 + (1 : Int32), g) h)
  · refine J_aload_n rfl rfl (show Dc Y_X12_source 42 (.aload_n 0) 1 43 from ⟨by decide +kernel, rfl⟩) ?_
    refine J_iload rfl (show Dc Y_X12_source 43 (.iload 4) 2 45 from ⟨by decide +kernel, rfl⟩) ?_
    refine J_iload rfl (show Dc Y_X12_source 45 (.iload 5) 2 47 from ⟨by decide +kernel, rfl⟩) ?_
    refine J_iload_n rfl rfl (show Dc Y_X12_source 47 (.iload_n 1) 1 48 from ⟨by decide +kernel, rfl⟩) ?_
    refine J_callVi (fun r => r.1) (fun r => r.2) (show Dc Y_X12_source 48 (.invokevirtual 338) 3 51 from ⟨by decide +kernel, rfl⟩) w_m_RX12_338 w_in_X12_blendOf rfl w_se_X12_blendOf w_cw_X12_blendOf (c_X12_blendOf N x0 x4 x5 x1 g) rfl rfl (by decide) (Nat.le_of_ble_eq_true rfl) (by decide) (by decide) (fun r1 => ?_)
    refine J_iconst (-1 : Int32) rfl (show Dc Y_X12_source 51 (.iconst (-1)) 1 52 from ⟨by decide +kernel, rfl⟩) ?_
    refine J_icmp_ne (tg := 58) (show Dc Y_X12_source 52 (.if_icmp .ne 6) 3 55 from ⟨by decide +kernel, rfl⟩) (by decide) (fun h => ?_) (fun h => ?_)
    · refine J_iload_n rfl rfl (show Dc Y_X12_source 58 (.iload_n 3) 1 59 from ⟨by decide +kernel, rfl⟩) ?_
      refine J_if_ne (tg := 73) (show Dc Y_X12_source 59 (.ifCond .ne 14) 3 62 from ⟨by decide +kernel, rfl⟩) (by decide) (fun h => ?_) (fun h => ?_)
      · refine J_iload_n rfl rfl (show Dc Y_X12_source 73 (.iload_n 2) 1 74 from ⟨by decide +kernel, rfl⟩) ?_
        refine J_mask [true, true, false, true, true, true] ?_
        exact j_X12_source_74 N x0 x1 x3 x4 x5 x2 r1.2 h0 hL24 hL36
      · refine J_bipush (10 : Int32) rfl (show Dc Y_X12_source 62 (.bipush 10) 2 64 from ⟨by decide +kernel, rfl⟩) ?_
        refine J_iload rfl (show Dc Y_X12_source 64 (.iload 4) 2 66 from ⟨by decide +kernel, rfl⟩) ?_
        refine J_imul (show Dc Y_X12_source 66 (.imul) 1 67 from ⟨by decide +kernel, rfl⟩) ?_
        refine J_iload rfl (show Dc Y_X12_source 67 (.iload 5) 2 69 from ⟨by decide +kernel, rfl⟩) ?_
        refine J_iadd (show Dc Y_X12_source 69 (.iadd) 1 70 from ⟨by decide +kernel, rfl⟩) ?_
        refine J_goto (tg := 74) (show Dc Y_X12_source 70 (.goto 4) 3 73 from ⟨by decide +kernel, rfl⟩) (by decide) ?_
        refine J_mask [true, true, false, true, true, true] ?_
        exact j_X12_source_74 N x0 x1 x3 x4 x5 (((10 : Int32) * x4) + x5) r1.2 h0 hL24 hL36
    · refine J_goto (tg := 78) (show Dc Y_X12_source 55 (.goto 23) 3 58 from ⟨by decide +kernel, rfl⟩) (by decide) ?_
      exact j_X12_source_78 N x0 x1 x2 x3 x4 x5 r1.2 h0 hL24 hL36

theorem j_X12_source_24 {X : ZX} (N : Nat) (x0 : Nat) (x1 : Int32) (x2 : Int32) (x3 : Int32) (x4 : Int32)   (g : ZS) {K : ((Int32 × Int32 × Int32 × ZS) ⊕ (Int32 × ZS)) → Prop} (h0 : ∀ v g, K (.inr (v, g)) → xK X (some (.int v)) g) (hL24 : ∀ s, K (.inl s) → zG Y_X12_source X 0 0 24 [some (.ref x0), some (.int x1), some (.int s.1), some (.int s.2.1), some (.int s.2.2.1), none] [] s.2.2.2) : J Y_X12_source X 0 0 24 [some (.ref x0), some (.int x1), some (.int x2), some (.int x3), some (.int x4), none] [] g (f_X12_source_24 N x0 x1 x2 x3 x4 g) K := by
  unfold f_X12_source_24
  refine J_iload rfl (show Dc Y_X12_source 24 (.iload 4) 2 26 from ⟨by decide +kernel, rfl⟩) ?_
  refine J_iconst (4 : Int32) rfl (show Dc Y_X12_source 26 (.iconst 4) 1 27 from ⟨by decide +kernel, rfl⟩) ?_
  refine J_icmp_ge (tg := 90) (show Dc Y_X12_source 27 (.if_icmp .ge 63) 3 30 from ⟨by decide +kernel, rfl⟩) (by decide) (fun h => ?_) (fun h => ?_)
  · refine J_map (f := Sum.inr) (fun _ h => h) ?_
    refine J_iload_n rfl rfl (show Dc Y_X12_source 90 (.iload_n 3) 1 91 from ⟨by decide +kernel, rfl⟩) ?_
    refine J_if_ne (tg := 98) (show Dc Y_X12_source 91 (.ifCond .ne 7) 3 94 from ⟨by decide +kernel, rfl⟩) (by decide) (fun h => ?_) (fun h => ?_)
    · refine J_aload_n rfl rfl (show Dc Y_X12_source 98 (.aload_n 0) 1 99 from ⟨by decide +kernel, rfl⟩) ?_
      refine J_iconst (0 : Int32) rfl (show Dc Y_X12_source 99 (.iconst 0) 1 100 from ⟨by decide +kernel, rfl⟩) ?_
      refine J_putI (show Dc Y_X12_source 100 (.putfield 113) 3 103 from ⟨by decide +kernel, rfl⟩) w_f_RX12_113 rfl rfl (fun g1 => ?_) (fun h => by cases h)
      refine J_aload_n rfl rfl (show Dc Y_X12_source 103 (.aload_n 0) 1 104 from ⟨by decide +kernel, rfl⟩) ?_
      refine J_iload_n rfl rfl (show Dc Y_X12_source 104 (.iload_n 3) 1 105 from ⟨by decide +kernel, rfl⟩) ?_
      refine J_i2l (show Dc Y_X12_source 105 (.i2l) 1 106 from ⟨by decide +kernel, rfl⟩) ?_
      refine J_callVv (fun r => r) (show Dc Y_X12_source 106 (.invokevirtual 274) 3 109 from ⟨by decide +kernel, rfl⟩) w_m_RX12_274 w_in_X12_tell rfl w_se_X12_tell w_cw_X12_tell (c_X12_tell x0 x3.toInt64 g1) rfl rfl (by decide) (Nat.le_of_ble_eq_true rfl) (by decide) (by decide) (fun g2 => ?_)
      refine J_iload_n rfl rfl (show Dc Y_X12_source 109 (.iload_n 2) 1 110 from ⟨by decide +kernel, rfl⟩) ?_
      exact J_reti (show Dc Y_X12_source 110 (.ireturn) 1 111 from ⟨by decide +kernel, rfl⟩) rfl (h0 _ _) (by decide) (by decide)
    · refine J_sipush (-200 : Int32) rfl (show Dc Y_X12_source 94 (.sipush (-200)) 3 97 from ⟨by decide +kernel, rfl⟩) ?_
      exact J_reti (show Dc Y_X12_source 97 (.ireturn) 1 98 from ⟨by decide +kernel, rfl⟩) rfl (h0 _ _) (by decide) (by decide)
  · refine J_iload rfl (show Dc Y_X12_source 30 (.iload 4) 2 32 from ⟨by decide +kernel, rfl⟩) ?_
    refine J_iconst (1 : Int32) rfl (show Dc Y_X12_source 32 (.iconst 1) 1 33 from ⟨by decide +kernel, rfl⟩) ?_
    refine J_iadd (show Dc Y_X12_source 33 (.iadd) 1 34 from ⟨by decide +kernel, rfl⟩) ?_
    refine J_istore [some (.ref x0), some (.int x1), some (.int x2), some (.int x3), some (.int x4), some (.int (x4 + (1 : Int32)))] (show Dc Y_X12_source 34 (.istore 5) 2 36 from ⟨by decide +kernel, rfl⟩) (by decide) rfl rfl ?_
    exact J_loop (X := X) (K := K) (uc := fun _ => 0) (us := fun _ => 0) (lf := fun s => [some (.ref x0), some (.int x1), some (.int s.1), some (.int s.2.1), some (.int x4), some (.int s.2.2.1)]) (gf := fun s => s.2.2.2) (fun s => j_X12_source_36 (K := zKl Y_X12_source X 36 (fun _ => 0) (fun _ => 0) (fun s => [some (.ref x0), some (.int x1), some (.int s.1), some (.int s.2.1), some (.int x4), some (.int s.2.2.1)]) (fun s => s.2.2.2) K) N x0 x1 s.1 s.2.1 x4 s.2.2.1 s.2.2.2 h0 hL24 (fun s h => h)) N (x2, x3, x4 + (1 : Int32), g)

theorem j_X12_source {X : ZX} (N : Nat) (x0 : Nat)   (g : ZS) {K : (Int32 × ZS) → Prop} (h0 : ∀ v g, K (v, g) → xK X (some (.int v)) g) : J Y_X12_source X 0 0 0 [some (.ref x0), none, none, none, none, none] [] g (f_X12_source N x0 g) K := by
  unfold f_X12_source
  refine J_aload_n rfl rfl (show Dc Y_X12_source 0 (.aload_n 0) 1 1 from ⟨by decide +kernel, rfl⟩) ?_
  refine J_iconst (0 : Int32) rfl (show Dc Y_X12_source 1 (.iconst 0) 1 2 from ⟨by decide +kernel, rfl⟩) ?_
  refine J_putI (show Dc Y_X12_source 2 (.putfield 109) 3 5 from ⟨by decide +kernel, rfl⟩) w_f_RX12_109 rfl rfl (fun g1 => ?_) (fun h => by cases h)
  refine J_aload_n rfl rfl (show Dc Y_X12_source 5 (.aload_n 0) 1 6 from ⟨by decide +kernel, rfl⟩) ?_
  refine J_iconst (0 : Int32) rfl (show Dc Y_X12_source 6 (.iconst 0) 1 7 from ⟨by decide +kernel, rfl⟩) ?_
  refine J_callVi (fun r => r.1) (fun r => r.2) (show Dc Y_X12_source 7 (.invokevirtual 175) 3 10 from ⟨by decide +kernel, rfl⟩) w_m_RX12_175 w_in_X12_readWords rfl w_se_X12_readWords w_cw_X12_readWords (c_X12_readWords N x0 (0 : Int32) g1) rfl rfl (by decide) (Nat.le_of_ble_eq_true rfl) (by decide) (by decide) (fun r2 => ?_)
  refine J_istore_n [some (.ref x0), some (.int r2.1), none, none, none, none] (show Dc Y_X12_source 10 (.istore_n 1) 1 11 from ⟨by decide +kernel, rfl⟩) rfl (by decide) rfl rfl ?_
  refine J_iload_n rfl rfl (show Dc Y_X12_source 11 (.iload_n 1) 1 12 from ⟨by decide +kernel, rfl⟩) ?_
  refine J_if_ge (tg := 17) (show Dc Y_X12_source 12 (.ifCond .ge 5) 3 15 from ⟨by decide +kernel, rfl⟩) (by decide) (fun h => ?_) (fun h => ?_)
  · refine J_iconst (-1 : Int32) rfl (show Dc Y_X12_source 17 (.iconst (-1)) 1 18 from ⟨by decide +kernel, rfl⟩) ?_
    refine J_istore_n [some (.ref x0), some (.int r2.1), some (.int (-1 : Int32)), none, none, none] (show Dc Y_X12_source 18 (.istore_n 2) 1 19 from ⟨by decide +kernel, rfl⟩) rfl (by decide) rfl rfl ?_
    refine J_iconst (0 : Int32) rfl (show Dc Y_X12_source 19 (.iconst 0) 1 20 from ⟨by decide +kernel, rfl⟩) ?_
    refine J_istore_n [some (.ref x0), some (.int r2.1), some (.int (-1 : Int32)), some (.int (0 : Int32)), none, none] (show Dc Y_X12_source 20 (.istore_n 3) 1 21 from ⟨by decide +kernel, rfl⟩) rfl (by decide) rfl rfl ?_
    refine J_iconst (0 : Int32) rfl (show Dc Y_X12_source 21 (.iconst 0) 1 22 from ⟨by decide +kernel, rfl⟩) ?_
    refine J_istore [some (.ref x0), some (.int r2.1), some (.int (-1 : Int32)), some (.int (0 : Int32)), some (.int (0 : Int32)), none] (show Dc Y_X12_source 22 (.istore 4) 2 24 from ⟨by decide +kernel, rfl⟩) (by decide) rfl rfl ?_
    exact J_loop (X := X) (K := K) (uc := fun _ => 0) (us := fun _ => 0) (lf := fun s => [some (.ref x0), some (.int r2.1), some (.int s.1), some (.int s.2.1), some (.int s.2.2.1), none]) (gf := fun s => s.2.2.2) (fun s => j_X12_source_24 (K := zKl Y_X12_source X 24 (fun _ => 0) (fun _ => 0) (fun s => [some (.ref x0), some (.int r2.1), some (.int s.1), some (.int s.2.1), some (.int s.2.2.1), none]) (fun s => s.2.2.2) K) N x0 r2.1 s.1 s.2.1 s.2.2.1 s.2.2.2 h0 (fun s h => h)) N ((-1 : Int32), (0 : Int32), (0 : Int32), r2.2)
  · refine J_iload_n rfl rfl (show Dc Y_X12_source 15 (.iload_n 1) 1 16 from ⟨by decide +kernel, rfl⟩) ?_
    exact J_reti (show Dc Y_X12_source 16 (.ireturn) 1 17 from ⟨by decide +kernel, rfl⟩) rfl (h0 _ _) (by decide) (by decide)

theorem c_X12_source {l : Launch} {D : ZD} {B0 : Nat} (N : Nat) (x0 : Nat) (g : ZS) : ∀ r, f_X12_source N x0 g = some r → zCt l D B0 yX12_source Y_X12_source [.ref x0] g (some (.int r.1)) r.2 :=
  zCt_ofF (vo := fun r => some (.int r.1)) (so := fun r => r.2) (by decide +kernel) rfl (fun h => by cases h) rfl (Nat.le_of_ble_eq_true rfl) (fun X => j_X12_source N x0 g (fun _ _ h => h))

theorem j_X11_isPair_26 {X : ZX}  (s0 : Int32)  (g : ZS) {K : Int32 → Prop} (h0 : ∀ v, K v → xK X (some (.int v)) g) : J Y_X11_isPair X 0 0 26 [none, none, none] [.int s0] g (f_X11_isPair_26 s0 g) K := by
  unfold f_X11_isPair_26
  exact J_retZ (show Dc Y_X11_isPair 26 (.ireturn) 1 27 from ⟨by decide +kernel, rfl⟩) rfl (h0 _) (by decide) (by decide)

theorem j_X11_isPair_25 {X : ZX}    (g : ZS) {K : Int32 → Prop} (h0 : ∀ v, K v → xK X (some (.int v)) g) : J Y_X11_isPair X 0 0 25 [none, none, none] [] g (f_X11_isPair_25 g) K := by
  unfold f_X11_isPair_25
  refine J_iconst (0 : Int32) rfl (show Dc Y_X11_isPair 25 (.iconst 0) 1 26 from ⟨by decide +kernel, rfl⟩) ?_
  exact j_X11_isPair_26 (0 : Int32) g h0

theorem j_X11_isPair {X : ZX} (x0 : Nat) (x1 : Int32) (x2 : Int32)   (g : ZS) {K : Int32 → Prop} (h0 : ∀ v, K v → xK X (some (.int v)) g) : J Y_X11_isPair X 0 0 0 [some (.ref x0), some (.int x1), some (.int x2)] [] g (f_X11_isPair x0 x1 x2 g) K := by
  unfold f_X11_isPair
  refine J_aload_n rfl rfl (show Dc Y_X11_isPair 0 (.aload_n 0) 1 1 from ⟨by decide +kernel, rfl⟩) ?_
  refine J_iload_n rfl rfl (show Dc Y_X11_isPair 1 (.iload_n 1) 1 2 from ⟨by decide +kernel, rfl⟩) ?_
  refine J_callVi (fun r => r) (fun _ => g) (show Dc Y_X11_isPair 2 (.invokevirtual 161) 3 5 from ⟨by decide +kernel, rfl⟩) w_m_RX11_161 w_in_X11_isParrot rfl w_se_X11_isParrot w_cw_X11_isParrot (c_X11_isParrot x0 x1 g) rfl rfl (by decide) (Nat.le_of_ble_eq_true rfl) (by decide) (by decide) (fun v1 => ?_)
  refine J_if_eq (tg := 25) (show Dc Y_X11_isPair 5 (.ifCond .eq 20) 3 8 from ⟨by decide +kernel, rfl⟩) (by decide) (fun h => ?_) (fun h => ?_)
  · refine J_mask [false, false, false] ?_
    exact j_X11_isPair_25 g h0
  · refine J_aload_n rfl rfl (show Dc Y_X11_isPair 8 (.aload_n 0) 1 9 from ⟨by decide +kernel, rfl⟩) ?_
    refine J_iload_n rfl rfl (show Dc Y_X11_isPair 9 (.iload_n 2) 1 10 from ⟨by decide +kernel, rfl⟩) ?_
    refine J_callVi (fun r => r) (fun _ => g) (show Dc Y_X11_isPair 10 (.invokevirtual 161) 3 13 from ⟨by decide +kernel, rfl⟩) w_m_RX11_161 w_in_X11_isParrot rfl w_se_X11_isParrot w_cw_X11_isParrot (c_X11_isParrot x0 x2 g) rfl rfl (by decide) (Nat.le_of_ble_eq_true rfl) (by decide) (by decide) (fun v2 => ?_)
    refine J_if_eq (tg := 25) (show Dc Y_X11_isPair 13 (.ifCond .eq 12) 3 16 from ⟨by decide +kernel, rfl⟩) (by decide) (fun h => ?_) (fun h => ?_)
    · refine J_mask [false, false, false] ?_
      exact j_X11_isPair_25 g h0
    · refine J_iload_n rfl rfl (show Dc Y_X11_isPair 16 (.iload_n 1) 1 17 from ⟨by decide +kernel, rfl⟩) ?_
      refine J_iload_n rfl rfl (show Dc Y_X11_isPair 17 (.iload_n 2) 1 18 from ⟨by decide +kernel, rfl⟩) ?_
      refine J_icmp_eq (tg := 25) (show Dc Y_X11_isPair 18 (.if_icmp .eq 7) 3 21 from ⟨by decide +kernel, rfl⟩) (by decide) (fun h => ?_) (fun h => ?_)
      · refine J_mask [false, false, false] ?_
        exact j_X11_isPair_25 g h0
      · refine J_iconst (1 : Int32) rfl (show Dc Y_X11_isPair 21 (.iconst 1) 1 22 from ⟨by decide +kernel, rfl⟩) ?_
        refine J_goto (tg := 26) (show Dc Y_X11_isPair 22 (.goto 4) 3 25 from ⟨by decide +kernel, rfl⟩) (by decide) ?_
        refine J_mask [false, false, false] ?_
        exact j_X11_isPair_26 (1 : Int32) g h0

theorem c_X11_isPair {l : Launch} {D : ZD} {B0 : Nat} (x0 : Nat) (x1 : Int32) (x2 : Int32) (g : ZS) : ∀ r, f_X11_isPair x0 x1 x2 g = some r → zCt l D B0 yX11_isPair Y_X11_isPair [.ref x0, .int x1, .int x2] g (some (.int r)) g :=
  zCt_ofF (vo := fun r => some (.int r)) (so := fun _ => g) (by decide +kernel) rfl (fun h => by cases h) rfl (Nat.le_of_ble_eq_true rfl) (fun X => j_X11_isPair x0 x1 x2 g (fun _ h => h))

theorem j_X11_followBoth {X : ZX} (N : Nat) (x0 : Nat) (x1 : Int32) (x2 : Int32)   (g : ZS) {K : ZS → Prop} (h0 : ∀ g, K g → xK X none g) : J Y_X11_followBoth X 0 0 0 [some (.ref x0), some (.int x1), some (.int x2)] [] g (f_X11_followBoth N x0 x1 x2 g) K := by
  unfold f_X11_followBoth
  refine J_aload_n rfl rfl (show Dc Y_X11_followBoth 0 (.aload_n 0) 1 1 from ⟨by decide +kernel, rfl⟩) ?_
  refine J_getR (show Dc Y_X11_followBoth 1 (.getfield 79) 3 4 from ⟨by decide +kernel, rfl⟩) w_f_RX11_79 rfl (fun v1 => ?_)
  refine J_aload_n rfl rfl (show Dc Y_X11_followBoth 4 (.aload_n 0) 1 5 from ⟨by decide +kernel, rfl⟩) ?_
  refine J_getR (show Dc Y_X11_followBoth 5 (.getfield 47) 3 8 from ⟨by decide +kernel, rfl⟩) w_f_RX11_47 rfl (fun v2 => ?_)
  refine J_getR (show Dc Y_X11_followBoth 8 (.getfield 171) 3 11 from ⟨by decide +kernel, rfl⟩) w_f_RX11_171 rfl (fun v3 => ?_)
  refine J_iload_n rfl rfl (show Dc Y_X11_followBoth 11 (.iload_n 1) 1 12 from ⟨by decide +kernel, rfl⟩) ?_
  refine J_aald (kd := 25) (by decide) (by decide) (show Dc Y_X11_followBoth 12 (.aaload) 1 13 from ⟨by decide +kernel, rfl⟩) (fun v4 => ?_)
  refine J_aload_n rfl rfl (show Dc Y_X11_followBoth 13 (.aload_n 0) 1 14 from ⟨by decide +kernel, rfl⟩) ?_
  refine J_getR (show Dc Y_X11_followBoth 14 (.getfield 37) 3 17 from ⟨by decide +kernel, rfl⟩) w_f_RX11_37 rfl (fun v5 => ?_)
  refine J_aload_n rfl rfl (show Dc Y_X11_followBoth 17 (.aload_n 0) 1 18 from ⟨by decide +kernel, rfl⟩) ?_
  refine J_getR (show Dc Y_X11_followBoth 18 (.getfield 30) 3 21 from ⟨by decide +kernel, rfl⟩) w_f_RX11_30 rfl (fun v6 => ?_)
  refine J_callVv (fun r => r) (show Dc Y_X11_followBoth 21 (.invokevirtual 289) 3 24 from ⟨by decide +kernel, rfl⟩) w_m_RX11_289 w_in_X10_follow rfl w_se_X10_follow w_cw_X10_follow (c_X10_follow N v1 v4 v5 v6 g) rfl rfl (by decide) (Nat.le_of_ble_eq_true rfl) (by decide) (by decide) (fun g7 => ?_)
  refine J_aload_n rfl rfl (show Dc Y_X11_followBoth 24 (.aload_n 0) 1 25 from ⟨by decide +kernel, rfl⟩) ?_
  refine J_getR (show Dc Y_X11_followBoth 25 (.getfield 83) 3 28 from ⟨by decide +kernel, rfl⟩) w_f_RX11_83 rfl (fun v8 => ?_)
  refine J_aload_n rfl rfl (show Dc Y_X11_followBoth 28 (.aload_n 0) 1 29 from ⟨by decide +kernel, rfl⟩) ?_
  refine J_getR (show Dc Y_X11_followBoth 29 (.getfield 47) 3 32 from ⟨by decide +kernel, rfl⟩) w_f_RX11_47 rfl (fun v9 => ?_)
  refine J_getR (show Dc Y_X11_followBoth 32 (.getfield 171) 3 35 from ⟨by decide +kernel, rfl⟩) w_f_RX11_171 rfl (fun v10 => ?_)
  refine J_iload_n rfl rfl (show Dc Y_X11_followBoth 35 (.iload_n 2) 1 36 from ⟨by decide +kernel, rfl⟩) ?_
  refine J_aald (kd := 25) (by decide) (by decide) (show Dc Y_X11_followBoth 36 (.aaload) 1 37 from ⟨by decide +kernel, rfl⟩) (fun v11 => ?_)
  refine J_aload_n rfl rfl (show Dc Y_X11_followBoth 37 (.aload_n 0) 1 38 from ⟨by decide +kernel, rfl⟩) ?_
  refine J_getR (show Dc Y_X11_followBoth 38 (.getfield 37) 3 41 from ⟨by decide +kernel, rfl⟩) w_f_RX11_37 rfl (fun v12 => ?_)
  refine J_aload_n rfl rfl (show Dc Y_X11_followBoth 41 (.aload_n 0) 1 42 from ⟨by decide +kernel, rfl⟩) ?_
  refine J_getR (show Dc Y_X11_followBoth 42 (.getfield 30) 3 45 from ⟨by decide +kernel, rfl⟩) w_f_RX11_30 rfl (fun v13 => ?_)
  refine J_callVv (fun r => r) (show Dc Y_X11_followBoth 45 (.invokevirtual 289) 3 48 from ⟨by decide +kernel, rfl⟩) w_m_RX11_289 w_in_X10_follow rfl w_se_X10_follow w_cw_X10_follow (c_X10_follow N v8 v11 v12 v13 g7) rfl rfl (by decide) (Nat.le_of_ble_eq_true rfl) (by decide) (by decide) (fun g14 => ?_)
  exact J_ret0 (show Dc Y_X11_followBoth 48 (.return_) 1 49 from ⟨by decide +kernel, rfl⟩) rfl (h0 _) (by decide) (by decide)

theorem c_X11_followBoth {l : Launch} {D : ZD} {B0 : Nat} (N : Nat) (x0 : Nat) (x1 : Int32) (x2 : Int32) (g : ZS) : ∀ r, f_X11_followBoth N x0 x1 x2 g = some r → zCt l D B0 yX11_followBoth Y_X11_followBoth [.ref x0, .int x1, .int x2] g none r :=
  zCt_ofF (vo := fun _ => none) (so := fun r => r) (by decide +kernel) rfl (fun h => by cases h) rfl (Nat.le_of_ble_eq_true rfl) (fun X => j_X11_followBoth N x0 x1 x2 g (fun _ h => h))

theorem j_X10_compare_117 {X : ZX} (N : Nat) (x0 : Nat) (x1 : Nat) (x2 : Int32) (x3 : Int32)   (g : ZS) {K : ((Int32 × ZS) ⊕ ((Int32 × ZS) ⊕ ZS)) → Prop} (h0 : ∀ g, K (.inr (.inr g)) → xK X none g) (hL5 : ∀ s, K (.inr (.inl s)) → zG Y_X10_compare X 0 0 5 [some (.ref x0), some (.ref x1), some (.int s.1), none] [] s.2) (hL14 : ∀ s, K (.inl s) → zG Y_X10_compare X 0 0 14 [some (.ref x0), some (.ref x1), some (.int x2), some (.int s.1)] [] s.2) : J Y_X10_compare X 0 0 117 [some (.ref x0), some (.ref x1), some (.int x2), some (.int x3)] [] g (f_X10_compare_117 N x0 x1 x2 x3 g) K := by
  unfold f_X10_compare_117
  refine J_iinc (-1 : Int32) [some (.ref x0), some (.ref x1), some (.int x2), some (.int (x3 + (-1 : Int32)))] (show Dc Y_X10_compare 117 (.iinc 3 (-1)) 3 120 from ⟨by decide +kernel, rfl⟩) rfl rfl (by decide) rfl rfl ?_
  refine J_goto (tg := 14) (show Dc Y_X10_compare 120 (.goto (-106)) 3 123 from ⟨by decide +kernel, rfl⟩) (by decide) ?_
  exact J_leaf (fun h => hL14 (x3 + (-1 : Int32), g) h)

theorem j_X10_compare_34 {X : ZX} (N : Nat) (x0 : Nat) (x1 : Nat) (x2 : Int32) (x3 : Int32)   (g : ZS) {K : ((Int32 × ZS) ⊕ ((Int32 × ZS) ⊕ ZS)) → Prop} (h0 : ∀ g, K (.inr (.inr g)) → xK X none g) (hL5 : ∀ s, K (.inr (.inl s)) → zG Y_X10_compare X 0 0 5 [some (.ref x0), some (.ref x1), some (.int s.1), none] [] s.2) (hL14 : ∀ s, K (.inl s) → zG Y_X10_compare X 0 0 14 [some (.ref x0), some (.ref x1), some (.int x2), some (.int s.1)] [] s.2) : J Y_X10_compare X 0 0 34 [some (.ref x0), some (.ref x1), some (.int x2), some (.int x3)] [] g (f_X10_compare_34 N x0 x1 x2 x3 g) K := by
  unfold f_X10_compare_34
  refine J_aload_n rfl rfl (show Dc Y_X10_compare 34 (.aload_n 0) 1 35 from ⟨by decide +kernel, rfl⟩) ?_
  refine J_getR (show Dc Y_X10_compare 35 (.getfield 20) 3 38 from ⟨by decide +kernel, rfl⟩) w_f_RX10_20 rfl (fun v1 => ?_)
  refine J_iload_n rfl rfl (show Dc Y_X10_compare 38 (.iload_n 2) 1 39 from ⟨by decide +kernel, rfl⟩) ?_
  refine J_aald (kd := 27) (by decide) (by decide) (show Dc Y_X10_compare 39 (.aaload) 1 40 from ⟨by decide +kernel, rfl⟩) (fun v2 => ?_)
  refine J_iload_n rfl rfl (show Dc Y_X10_compare 40 (.iload_n 3) 1 41 from ⟨by decide +kernel, rfl⟩) ?_
  refine J_iconst (0 : Int32) rfl (show Dc Y_X10_compare 41 (.iconst 0) 1 42 from ⟨by decide +kernel, rfl⟩) ?_
  refine J_iast (show Dc Y_X10_compare 42 (.iastore) 1 43 from ⟨by decide +kernel, rfl⟩) (fun g3 => ?_)
  refine J_goto (tg := 117) (show Dc Y_X10_compare 43 (.goto 74) 3 46 from ⟨by decide +kernel, rfl⟩) (by decide) ?_
  exact j_X10_compare_117 N x0 x1 x2 x3 g3 h0 hL5 hL14

theorem j_X10_compare_14 {X : ZX} (N : Nat) (x0 : Nat) (x1 : Nat) (x2 : Int32) (x3 : Int32)   (g : ZS) {K : ((Int32 × ZS) ⊕ ((Int32 × ZS) ⊕ ZS)) → Prop} (h0 : ∀ g, K (.inr (.inr g)) → xK X none g) (hL5 : ∀ s, K (.inr (.inl s)) → zG Y_X10_compare X 0 0 5 [some (.ref x0), some (.ref x1), some (.int s.1), none] [] s.2) (hL14 : ∀ s, K (.inl s) → zG Y_X10_compare X 0 0 14 [some (.ref x0), some (.ref x1), some (.int x2), some (.int s.1)] [] s.2) : J Y_X10_compare X 0 0 14 [some (.ref x0), some (.ref x1), some (.int x2), some (.int x3)] [] g (f_X10_compare_14 N x0 x1 x2 x3 g) K := by
  unfold f_X10_compare_14
  refine J_iload_n rfl rfl (show Dc Y_X10_compare 14 (.iload_n 3) 1 15 from ⟨by decide +kernel, rfl⟩) ?_
  refine J_if_lt (tg := 123) (show Dc Y_X10_compare 15 (.ifCond .lt 108) 3 18 from ⟨by decide +kernel, rfl⟩) (by decide) (fun h => ?_) (fun h => ?_)
  · refine J_map (f := Sum.inr) (fun _ h => h) ?_
    refine J_iinc (-1 : Int32) [some (.ref x0), some (.ref x1), some (.int (x2 + (-1 : Int32))), some (.int x3)] (show Dc Y_X10_compare 123 (.iinc 2 (-1)) 3 126 from ⟨by decide +kernel, rfl⟩) rfl rfl (by decide) rfl rfl ?_
    refine J_goto (tg := 5) (show Dc Y_X10_compare 126 (.goto (-121)) 3 129 from ⟨by decide +kernel, rfl⟩) (by decide) ?_
    refine J_mask [true, true, true, false] ?_
    exact J_leaf (fun h => hL5 (x2 + (-1 : Int32), g) h)
  · refine J_iload_n rfl rfl (show Dc Y_X10_compare 18 (.iload_n 2) 1 19 from ⟨by decide +kernel, rfl⟩) ?_
    refine J_aload_n rfl rfl (show Dc Y_X10_compare 19 (.aload_n 0) 1 20 from ⟨by decide +kernel, rfl⟩) ?_
    refine J_getI (show Dc Y_X10_compare 20 (.getfield 23) 3 23 from ⟨by decide +kernel, rfl⟩) w_f_RX10_23 rfl (fun v1 => ?_)
    refine J_icmp_eq (tg := 34) (show Dc Y_X10_compare 23 (.if_icmp .eq 11) 3 26 from ⟨by decide +kernel, rfl⟩) (by decide) (fun h => ?_) (fun h => ?_)
    · exact j_X10_compare_34 N x0 x1 x2 x3 g h0 hL5 hL14
    · refine J_iload_n rfl rfl (show Dc Y_X10_compare 26 (.iload_n 3) 1 27 from ⟨by decide +kernel, rfl⟩) ?_
      refine J_aload_n rfl rfl (show Dc Y_X10_compare 27 (.aload_n 1) 1 28 from ⟨by decide +kernel, rfl⟩) ?_
      refine J_getI (show Dc Y_X10_compare 28 (.getfield 23) 3 31 from ⟨by decide +kernel, rfl⟩) w_f_RX10_23 rfl (fun v2 => ?_)
      refine J_icmp_ne (tg := 46) (show Dc Y_X10_compare 31 (.if_icmp .ne 15) 3 34 from ⟨by decide +kernel, rfl⟩) (by decide) (fun h => ?_) (fun h => ?_)
      · refine J_aload_n rfl rfl (show Dc Y_X10_compare 46 (.aload_n 0) 1 47 from ⟨by decide +kernel, rfl⟩) ?_
        refine J_getR (show Dc Y_X10_compare 47 (.getfield 9) 3 50 from ⟨by decide +kernel, rfl⟩) w_f_RX10_9 rfl (fun v3 => ?_)
        refine J_iload_n rfl rfl (show Dc Y_X10_compare 50 (.iload_n 2) 1 51 from ⟨by decide +kernel, rfl⟩) ?_
        refine J_iald (show Dc Y_X10_compare 51 (.iaload) 1 52 from ⟨by decide +kernel, rfl⟩) (fun v4 => ?_)
        refine J_aload_n rfl rfl (show Dc Y_X10_compare 52 (.aload_n 1) 1 53 from ⟨by decide +kernel, rfl⟩) ?_
        refine J_getR (show Dc Y_X10_compare 53 (.getfield 9) 3 56 from ⟨by decide +kernel, rfl⟩) w_f_RX10_9 rfl (fun v5 => ?_)
        refine J_iload_n rfl rfl (show Dc Y_X10_compare 56 (.iload_n 3) 1 57 from ⟨by decide +kernel, rfl⟩) ?_
        refine J_iald (show Dc Y_X10_compare 57 (.iaload) 1 58 from ⟨by decide +kernel, rfl⟩) (fun v6 => ?_)
        refine J_icmp_ne (tg := 86) (show Dc Y_X10_compare 58 (.if_icmp .ne 28) 3 61 from ⟨by decide +kernel, rfl⟩) (by decide) (fun h => ?_) (fun h => ?_)
        · refine J_aload_n rfl rfl (show Dc Y_X10_compare 86 (.aload_n 0) 1 87 from ⟨by decide +kernel, rfl⟩) ?_
          refine J_getR (show Dc Y_X10_compare 87 (.getfield 20) 3 90 from ⟨by decide +kernel, rfl⟩) w_f_RX10_20 rfl (fun v7 => ?_)
          refine J_iload_n rfl rfl (show Dc Y_X10_compare 90 (.iload_n 2) 1 91 from ⟨by decide +kernel, rfl⟩) ?_
          refine J_aald (kd := 27) (by decide) (by decide) (show Dc Y_X10_compare 91 (.aaload) 1 92 from ⟨by decide +kernel, rfl⟩) (fun v8 => ?_)
          refine J_iload_n rfl rfl (show Dc Y_X10_compare 92 (.iload_n 3) 1 93 from ⟨by decide +kernel, rfl⟩) ?_
          refine J_aload_n rfl rfl (show Dc Y_X10_compare 93 (.aload_n 0) 1 94 from ⟨by decide +kernel, rfl⟩) ?_
          refine J_getR (show Dc Y_X10_compare 94 (.getfield 20) 3 97 from ⟨by decide +kernel, rfl⟩) w_f_RX10_20 rfl (fun v9 => ?_)
          refine J_iload_n rfl rfl (show Dc Y_X10_compare 97 (.iload_n 2) 1 98 from ⟨by decide +kernel, rfl⟩) ?_
          refine J_iconst (1 : Int32) rfl (show Dc Y_X10_compare 98 (.iconst 1) 1 99 from ⟨by decide +kernel, rfl⟩) ?_
          refine J_iadd (show Dc Y_X10_compare 99 (.iadd) 1 100 from ⟨by decide +kernel, rfl⟩) ?_
          refine J_aald (kd := 27) (by decide) (by decide) (show Dc Y_X10_compare 100 (.aaload) 1 101 from ⟨by decide +kernel, rfl⟩) (fun v10 => ?_)
          refine J_iload_n rfl rfl (show Dc Y_X10_compare 101 (.iload_n 3) 1 102 from ⟨by decide +kernel, rfl⟩) ?_
          refine J_iald (show Dc Y_X10_compare 102 (.iaload) 1 103 from ⟨by decide +kernel, rfl⟩) (fun v11 => ?_)
          refine J_aload_n rfl rfl (show Dc Y_X10_compare 103 (.aload_n 0) 1 104 from ⟨by decide +kernel, rfl⟩) ?_
          refine J_getR (show Dc Y_X10_compare 104 (.getfield 20) 3 107 from ⟨by decide +kernel, rfl⟩) w_f_RX10_20 rfl (fun v12 => ?_)
          refine J_iload_n rfl rfl (show Dc Y_X10_compare 107 (.iload_n 2) 1 108 from ⟨by decide +kernel, rfl⟩) ?_
          refine J_aald (kd := 27) (by decide) (by decide) (show Dc Y_X10_compare 108 (.aaload) 1 109 from ⟨by decide +kernel, rfl⟩) (fun v13 => ?_)
          refine J_iload_n rfl rfl (show Dc Y_X10_compare 109 (.iload_n 3) 1 110 from ⟨by decide +kernel, rfl⟩) ?_
          refine J_iconst (1 : Int32) rfl (show Dc Y_X10_compare 110 (.iconst 1) 1 111 from ⟨by decide +kernel, rfl⟩) ?_
          refine J_iadd (show Dc Y_X10_compare 111 (.iadd) 1 112 from ⟨by decide +kernel, rfl⟩) ?_
          refine J_iald (show Dc Y_X10_compare 112 (.iaload) 1 113 from ⟨by decide +kernel, rfl⟩) (fun v14 => ?_)
          refine J_callSi (fun r => r) (fun _ => g) (show Dc Y_X10_compare 113 (.invokestatic 55) 3 116 from ⟨by decide +kernel, rfl⟩) w_m_RX10_55 w_st_J9_max_7cf53 w_cw_J9_max_7cf53 (c_J9_max_7cf53 v11 v14 g) rfl rfl (by decide) (Nat.le_of_ble_eq_true rfl) (by decide) (by decide) (fun v15 => ?_)
          refine J_iast (show Dc Y_X10_compare 116 (.iastore) 1 117 from ⟨by decide +kernel, rfl⟩) (fun g16 => ?_)
          exact j_X10_compare_117 N x0 x1 x2 x3 g16 h0 hL5 hL14
        · refine J_aload_n rfl rfl (show Dc Y_X10_compare 61 (.aload_n 0) 1 62 from ⟨by decide +kernel, rfl⟩) ?_
          refine J_getR (show Dc Y_X10_compare 62 (.getfield 20) 3 65 from ⟨by decide +kernel, rfl⟩) w_f_RX10_20 rfl (fun v17 => ?_)
          refine J_iload_n rfl rfl (show Dc Y_X10_compare 65 (.iload_n 2) 1 66 from ⟨by decide +kernel, rfl⟩) ?_
          refine J_aald (kd := 27) (by decide) (by decide) (show Dc Y_X10_compare 66 (.aaload) 1 67 from ⟨by decide +kernel, rfl⟩) (fun v18 => ?_)
          refine J_iload_n rfl rfl (show Dc Y_X10_compare 67 (.iload_n 3) 1 68 from ⟨by decide +kernel, rfl⟩) ?_
          refine J_iconst (1 : Int32) rfl (show Dc Y_X10_compare 68 (.iconst 1) 1 69 from ⟨by decide +kernel, rfl⟩) ?_
          refine J_aload_n rfl rfl (show Dc Y_X10_compare 69 (.aload_n 0) 1 70 from ⟨by decide +kernel, rfl⟩) ?_
          refine J_getR (show Dc Y_X10_compare 70 (.getfield 20) 3 73 from ⟨by decide +kernel, rfl⟩) w_f_RX10_20 rfl (fun v19 => ?_)
          refine J_iload_n rfl rfl (show Dc Y_X10_compare 73 (.iload_n 2) 1 74 from ⟨by decide +kernel, rfl⟩) ?_
          refine J_iconst (1 : Int32) rfl (show Dc Y_X10_compare 74 (.iconst 1) 1 75 from ⟨by decide +kernel, rfl⟩) ?_
          refine J_iadd (show Dc Y_X10_compare 75 (.iadd) 1 76 from ⟨by decide +kernel, rfl⟩) ?_
          refine J_aald (kd := 27) (by decide) (by decide) (show Dc Y_X10_compare 76 (.aaload) 1 77 from ⟨by decide +kernel, rfl⟩) (fun v20 => ?_)
          refine J_iload_n rfl rfl (show Dc Y_X10_compare 77 (.iload_n 3) 1 78 from ⟨by decide +kernel, rfl⟩) ?_
          refine J_iconst (1 : Int32) rfl (show Dc Y_X10_compare 78 (.iconst 1) 1 79 from ⟨by decide +kernel, rfl⟩) ?_
          refine J_iadd (show Dc Y_X10_compare 79 (.iadd) 1 80 from ⟨by decide +kernel, rfl⟩) ?_
          refine J_iald (show Dc Y_X10_compare 80 (.iaload) 1 81 from ⟨by decide +kernel, rfl⟩) (fun v21 => ?_)
          refine J_iadd (show Dc Y_X10_compare 81 (.iadd) 1 82 from ⟨by decide +kernel, rfl⟩) ?_
          refine J_iast (show Dc Y_X10_compare 82 (.iastore) 1 83 from ⟨by decide +kernel, rfl⟩) (fun g22 => ?_)
          refine J_goto (tg := 117) (show Dc Y_X10_compare 83 (.goto 34) 3 86 from ⟨by decide +kernel, rfl⟩) (by decide) ?_
          exact j_X10_compare_117 N x0 x1 x2 x3 g22 h0 hL5 hL14
      · exact j_X10_compare_34 N x0 x1 x2 x3 g h0 hL5 hL14

theorem j_X10_compare_5 {X : ZX} (N : Nat) (x0 : Nat) (x1 : Nat) (x2 : Int32)   (g : ZS) {K : ((Int32 × ZS) ⊕ ZS) → Prop} (h0 : ∀ g, K (.inr g) → xK X none g) (hL5 : ∀ s, K (.inl s) → zG Y_X10_compare X 0 0 5 [some (.ref x0), some (.ref x1), some (.int s.1), none] [] s.2) : J Y_X10_compare X 0 0 5 [some (.ref x0), some (.ref x1), some (.int x2), none] [] g (f_X10_compare_5 N x0 x1 x2 g) K := by
  unfold f_X10_compare_5
  refine J_iload_n rfl rfl (show Dc Y_X10_compare 5 (.iload_n 2) 1 6 from ⟨by decide +kernel, rfl⟩) ?_
  refine J_if_lt (tg := 129) (show Dc Y_X10_compare 6 (.ifCond .lt 123) 3 9 from ⟨by decide +kernel, rfl⟩) (by decide) (fun h => ?_) (fun h => ?_)
  · refine J_map (f := Sum.inr) (fun _ h => h) ?_
    exact J_ret0 (show Dc Y_X10_compare 129 (.return_) 1 130 from ⟨by decide +kernel, rfl⟩) rfl (h0 _) (by decide) (by decide)
  · refine J_aload_n rfl rfl (show Dc Y_X10_compare 9 (.aload_n 1) 1 10 from ⟨by decide +kernel, rfl⟩) ?_
    refine J_getI (show Dc Y_X10_compare 10 (.getfield 23) 3 13 from ⟨by decide +kernel, rfl⟩) w_f_RX10_23 rfl (fun v1 => ?_)
    refine J_istore_n [some (.ref x0), some (.ref x1), some (.int x2), some (.int v1)] (show Dc Y_X10_compare 13 (.istore_n 3) 1 14 from ⟨by decide +kernel, rfl⟩) rfl (by decide) rfl rfl ?_
    exact J_loop (X := X) (K := K) (uc := fun _ => 0) (us := fun _ => 0) (lf := fun s => [some (.ref x0), some (.ref x1), some (.int x2), some (.int s.1)]) (gf := fun s => s.2) (fun s => j_X10_compare_14 (K := zKl Y_X10_compare X 14 (fun _ => 0) (fun _ => 0) (fun s => [some (.ref x0), some (.ref x1), some (.int x2), some (.int s.1)]) (fun s => s.2) K) N x0 x1 x2 s.1 s.2 h0 hL5 (fun s h => h)) N (v1, g)

theorem j_X10_compare {X : ZX} (N : Nat) (x0 : Nat) (x1 : Nat)   (g : ZS) {K : ZS → Prop} (h0 : ∀ g, K g → xK X none g) : J Y_X10_compare X 0 0 0 [some (.ref x0), some (.ref x1), none, none] [] g (f_X10_compare N x0 x1 g) K := by
  unfold f_X10_compare
  refine J_aload_n rfl rfl (show Dc Y_X10_compare 0 (.aload_n 0) 1 1 from ⟨by decide +kernel, rfl⟩) ?_
  refine J_getI (show Dc Y_X10_compare 1 (.getfield 23) 3 4 from ⟨by decide +kernel, rfl⟩) w_f_RX10_23 rfl (fun v1 => ?_)
  refine J_istore_n [some (.ref x0), some (.ref x1), some (.int v1), none] (show Dc Y_X10_compare 4 (.istore_n 2) 1 5 from ⟨by decide +kernel, rfl⟩) rfl (by decide) rfl rfl ?_
  exact J_loop (X := X) (K := K) (uc := fun _ => 0) (us := fun _ => 0) (lf := fun s => [some (.ref x0), some (.ref x1), some (.int s.1), none]) (gf := fun s => s.2) (fun s => j_X10_compare_5 (K := zKl Y_X10_compare X 5 (fun _ => 0) (fun _ => 0) (fun s => [some (.ref x0), some (.ref x1), some (.int s.1), none]) (fun s => s.2) K) N x0 x1 s.1 s.2 h0 (fun s h => h)) N (v1, g)

theorem c_X10_compare {l : Launch} {D : ZD} {B0 : Nat} (N : Nat) (x0 : Nat) (x1 : Nat) (g : ZS) : ∀ r, f_X10_compare N x0 x1 g = some r → zCt l D B0 yX10_compare Y_X10_compare [.ref x0, .ref x1] g none r :=
  zCt_ofF (vo := fun _ => none) (so := fun r => r) (by decide +kernel) rfl (fun h => by cases h) rfl (Nat.le_of_ble_eq_true rfl) (fun X => j_X10_compare N x0 x1 g (fun _ h => h))

theorem j_X11_leastOfLongest_70 {X : ZX} (N : Nat) (x0 : Nat) (x1 : Int32) (x2 : Int32) (x3 : Int32) (x4 : Int32)   (g : ZS) {K : ((Int32) ⊕ Int32) → Prop} (h0 : ∀ v, K (.inr v) → xK X (some (.int v)) g) (hL3 : ∀ s, K (.inl s) → zG Y_X11_leastOfLongest X 0 0 3 [some (.ref x0), some (.int x1), some (.int x2), some (.int x3), some (.int s), none, none] [] g) : J Y_X11_leastOfLongest X 0 0 70 [some (.ref x0), some (.int x1), some (.int x2), some (.int x3), some (.int x4), none, none] [] g (f_X11_leastOfLongest_70 N x0 x1 x2 x3 x4 g) K := by
  unfold f_X11_leastOfLongest_70
  refine J_iinc (1 : Int32) [some (.ref x0), some (.int x1), some (.int x2), some (.int x3), some (.int (x4 + (1 : Int32))), none, none] (show Dc Y_X11_leastOfLongest 70 (.iinc 4 1) 3 73 from ⟨by decide +kernel, rfl⟩) rfl rfl (by decide) rfl rfl ?_
  refine J_goto (tg := 3) (show Dc Y_X11_leastOfLongest 73 (.goto (-70)) 3 76 from ⟨by decide +kernel, rfl⟩) (by decide) ?_
  exact J_leaf (fun h => hL3 (x4 + (1 : Int32)) h)

theorem j_X11_leastOfLongest_3 {X : ZX} (N : Nat) (x0 : Nat) (x1 : Int32) (x2 : Int32) (x3 : Int32) (x4 : Int32)   (g : ZS) {K : ((Int32) ⊕ Int32) → Prop} (h0 : ∀ v, K (.inr v) → xK X (some (.int v)) g) (hL3 : ∀ s, K (.inl s) → zG Y_X11_leastOfLongest X 0 0 3 [some (.ref x0), some (.int x1), some (.int x2), some (.int x3), some (.int s), none, none] [] g) : J Y_X11_leastOfLongest X 0 0 3 [some (.ref x0), some (.int x1), some (.int x2), some (.int x3), some (.int x4), none, none] [] g (f_X11_leastOfLongest_3 N x0 x1 x2 x3 x4 g) K := by
  unfold f_X11_leastOfLongest_3
  refine J_iload rfl (show Dc Y_X11_leastOfLongest 3 (.iload 4) 2 5 from ⟨by decide +kernel, rfl⟩) ?_
  refine J_bipush (8 : Int32) rfl (show Dc Y_X11_leastOfLongest 5 (.bipush 8) 2 7 from ⟨by decide +kernel, rfl⟩) ?_
  refine J_icmp_ge (tg := 76) (show Dc Y_X11_leastOfLongest 7 (.if_icmp .ge 69) 3 10 from ⟨by decide +kernel, rfl⟩) (by decide) (fun h => ?_) (fun h => ?_)
  · refine J_map (f := Sum.inr) (fun _ h => h) ?_
    refine J_iconst (-1 : Int32) rfl (show Dc Y_X11_leastOfLongest 76 (.iconst (-1)) 1 77 from ⟨by decide +kernel, rfl⟩) ?_
    exact J_reti (show Dc Y_X11_leastOfLongest 77 (.ireturn) 1 78 from ⟨by decide +kernel, rfl⟩) rfl (h0 _) (by decide) (by decide)
  · refine J_aload_n rfl rfl (show Dc Y_X11_leastOfLongest 10 (.aload_n 0) 1 11 from ⟨by decide +kernel, rfl⟩) ?_
    refine J_getR (show Dc Y_X11_leastOfLongest 11 (.getfield 79) 3 14 from ⟨by decide +kernel, rfl⟩) w_f_RX11_79 rfl (fun v1 => ?_)
    refine J_iload rfl (show Dc Y_X11_leastOfLongest 14 (.iload 4) 2 16 from ⟨by decide +kernel, rfl⟩) ?_
    refine J_callVi (fun r => r) (fun _ => g) (show Dc Y_X11_leastOfLongest 16 (.invokevirtual 332) 3 19 from ⟨by decide +kernel, rfl⟩) w_m_RX11_332 w_in_X10_placeOf rfl w_se_X10_placeOf w_cw_X10_placeOf (c_X10_placeOf N v1 x4 g) rfl rfl (by decide) (Nat.le_of_ble_eq_true rfl) (by decide) (by decide) (fun v2 => ?_)
    refine J_istore [some (.ref x0), some (.int x1), some (.int x2), some (.int x3), some (.int x4), some (.int v2), none] (show Dc Y_X11_leastOfLongest 19 (.istore 5) 2 21 from ⟨by decide +kernel, rfl⟩) (by decide) rfl rfl ?_
    refine J_aload_n rfl rfl (show Dc Y_X11_leastOfLongest 21 (.aload_n 0) 1 22 from ⟨by decide +kernel, rfl⟩) ?_
    refine J_getR (show Dc Y_X11_leastOfLongest 22 (.getfield 83) 3 25 from ⟨by decide +kernel, rfl⟩) w_f_RX11_83 rfl (fun v3 => ?_)
    refine J_iload rfl (show Dc Y_X11_leastOfLongest 25 (.iload 4) 2 27 from ⟨by decide +kernel, rfl⟩) ?_
    refine J_callVi (fun r => r) (fun _ => g) (show Dc Y_X11_leastOfLongest 27 (.invokevirtual 332) 3 30 from ⟨by decide +kernel, rfl⟩) w_m_RX11_332 w_in_X10_placeOf rfl w_se_X10_placeOf w_cw_X10_placeOf (c_X10_placeOf N v3 x4 g) rfl rfl (by decide) (Nat.le_of_ble_eq_true rfl) (by decide) (by decide) (fun v4 => ?_)
    refine J_istore [some (.ref x0), some (.int x1), some (.int x2), some (.int x3), some (.int x4), some (.int v2), some (.int v4)] (show Dc Y_X11_leastOfLongest 30 (.istore 6) 2 32 from ⟨by decide +kernel, rfl⟩) (by decide) rfl rfl ?_
    refine J_iload rfl (show Dc Y_X11_leastOfLongest 32 (.iload 5) 2 34 from ⟨by decide +kernel, rfl⟩) ?_
    refine J_iload_n rfl rfl (show Dc Y_X11_leastOfLongest 34 (.iload_n 1) 1 35 from ⟨by decide +kernel, rfl⟩) ?_
    refine J_icmp_lt (tg := 70) (show Dc Y_X11_leastOfLongest 35 (.if_icmp .lt 35) 3 38 from ⟨by decide +kernel, rfl⟩) (by decide) (fun h => ?_) (fun h => ?_)
    · refine J_mask [true, true, true, true, true, false, false] ?_
      exact j_X11_leastOfLongest_70 N x0 x1 x2 x3 x4 g h0 hL3
    · refine J_iload rfl (show Dc Y_X11_leastOfLongest 38 (.iload 6) 2 40 from ⟨by decide +kernel, rfl⟩) ?_
      refine J_iload_n rfl rfl (show Dc Y_X11_leastOfLongest 40 (.iload_n 2) 1 41 from ⟨by decide +kernel, rfl⟩) ?_
      refine J_icmp_lt (tg := 70) (show Dc Y_X11_leastOfLongest 41 (.if_icmp .lt 29) 3 44 from ⟨by decide +kernel, rfl⟩) (by decide) (fun h => ?_) (fun h => ?_)
      · refine J_mask [true, true, true, true, true, false, false] ?_
        exact j_X11_leastOfLongest_70 N x0 x1 x2 x3 x4 g h0 hL3
      · refine J_iconst (1 : Int32) rfl (show Dc Y_X11_leastOfLongest 44 (.iconst 1) 1 45 from ⟨by decide +kernel, rfl⟩) ?_
        refine J_aload_n rfl rfl (show Dc Y_X11_leastOfLongest 45 (.aload_n 0) 1 46 from ⟨by decide +kernel, rfl⟩) ?_
        refine J_getR (show Dc Y_X11_leastOfLongest 46 (.getfield 79) 3 49 from ⟨by decide +kernel, rfl⟩) w_f_RX11_79 rfl (fun v5 => ?_)
        refine J_getR (show Dc Y_X11_leastOfLongest 49 (.getfield 379) 3 52 from ⟨by decide +kernel, rfl⟩) w_f_RX11_379 rfl (fun v6 => ?_)
        refine J_iload rfl (show Dc Y_X11_leastOfLongest 52 (.iload 5) 2 54 from ⟨by decide +kernel, rfl⟩) ?_
        refine J_iconst (1 : Int32) rfl (show Dc Y_X11_leastOfLongest 54 (.iconst 1) 1 55 from ⟨by decide +kernel, rfl⟩) ?_
        refine J_iadd (show Dc Y_X11_leastOfLongest 55 (.iadd) 1 56 from ⟨by decide +kernel, rfl⟩) ?_
        refine J_aald (kd := 27) (by decide) (by decide) (show Dc Y_X11_leastOfLongest 56 (.aaload) 1 57 from ⟨by decide +kernel, rfl⟩) (fun v7 => ?_)
        refine J_iload rfl (show Dc Y_X11_leastOfLongest 57 (.iload 6) 2 59 from ⟨by decide +kernel, rfl⟩) ?_
        refine J_iconst (1 : Int32) rfl (show Dc Y_X11_leastOfLongest 59 (.iconst 1) 1 60 from ⟨by decide +kernel, rfl⟩) ?_
        refine J_iadd (show Dc Y_X11_leastOfLongest 60 (.iadd) 1 61 from ⟨by decide +kernel, rfl⟩) ?_
        refine J_iald (show Dc Y_X11_leastOfLongest 61 (.iaload) 1 62 from ⟨by decide +kernel, rfl⟩) (fun v8 => ?_)
        refine J_iadd (show Dc Y_X11_leastOfLongest 62 (.iadd) 1 63 from ⟨by decide +kernel, rfl⟩) ?_
        refine J_iload_n rfl rfl (show Dc Y_X11_leastOfLongest 63 (.iload_n 3) 1 64 from ⟨by decide +kernel, rfl⟩) ?_
        refine J_icmp_ne (tg := 70) (show Dc Y_X11_leastOfLongest 64 (.if_icmp .ne 6) 3 67 from ⟨by decide +kernel, rfl⟩) (by decide) (fun h => ?_) (fun h => ?_)
        · refine J_mask [true, true, true, true, true, false, false] ?_
          exact j_X11_leastOfLongest_70 N x0 x1 x2 x3 x4 g h0 hL3
        · refine J_map (f := Sum.inr) (fun _ h => h) ?_
          refine J_iload rfl (show Dc Y_X11_leastOfLongest 67 (.iload 4) 2 69 from ⟨by decide +kernel, rfl⟩) ?_
          exact J_reti (show Dc Y_X11_leastOfLongest 69 (.ireturn) 1 70 from ⟨by decide +kernel, rfl⟩) rfl (h0 _) (by decide) (by decide)

theorem j_X11_leastOfLongest {X : ZX} (N : Nat) (x0 : Nat) (x1 : Int32) (x2 : Int32) (x3 : Int32)   (g : ZS) {K : Int32 → Prop} (h0 : ∀ v, K v → xK X (some (.int v)) g) : J Y_X11_leastOfLongest X 0 0 0 [some (.ref x0), some (.int x1), some (.int x2), some (.int x3), none, none, none] [] g (f_X11_leastOfLongest N x0 x1 x2 x3 g) K := by
  unfold f_X11_leastOfLongest
  refine J_iconst (0 : Int32) rfl (show Dc Y_X11_leastOfLongest 0 (.iconst 0) 1 1 from ⟨by decide +kernel, rfl⟩) ?_
  refine J_istore [some (.ref x0), some (.int x1), some (.int x2), some (.int x3), some (.int (0 : Int32)), none, none] (show Dc Y_X11_leastOfLongest 1 (.istore 4) 2 3 from ⟨by decide +kernel, rfl⟩) (by decide) rfl rfl ?_
  exact J_loop (X := X) (K := K) (uc := fun _ => 0) (us := fun _ => 0) (lf := fun s => [some (.ref x0), some (.int x1), some (.int x2), some (.int x3), some (.int s), none, none]) (gf := fun s => g) (fun s => j_X11_leastOfLongest_3 (K := zKl Y_X11_leastOfLongest X 3 (fun _ => 0) (fun _ => 0) (fun s => [some (.ref x0), some (.int x1), some (.int x2), some (.int x3), some (.int s), none, none]) (fun s => g) K) N x0 x1 x2 x3 s g h0 (fun s h => h)) N (0 : Int32)

theorem c_X11_leastOfLongest {l : Launch} {D : ZD} {B0 : Nat} (N : Nat) (x0 : Nat) (x1 : Int32) (x2 : Int32) (x3 : Int32) (g : ZS) : ∀ r, f_X11_leastOfLongest N x0 x1 x2 x3 g = some r → zCt l D B0 yX11_leastOfLongest Y_X11_leastOfLongest [.ref x0, .int x1, .int x2, .int x3] g (some (.int r)) g :=
  zCt_ofF (vo := fun r => some (.int r)) (so := fun _ => g) (by decide +kernel) rfl (fun h => by cases h) rfl (Nat.le_of_ble_eq_true rfl) (fun X => j_X11_leastOfLongest N x0 x1 x2 x3 g (fun _ h => h))

theorem j_X11_alike_57 {X : ZX} (N : Nat) (x0 : Nat) (x3 : Int32) (x4 : Int32) (x5 : Int32) (x6 : Int32)   (g : ZS) {K : ((Int32 × Int32 × Int32 × ZS) ⊕ (Int32 × ZS)) → Prop} (h0 : ∀ v g, K (.inr (v, g)) → xK X (some (.int v)) g) (hL57 : ∀ s, K (.inl s) → zG Y_X11_alike X 0 0 57 [some (.ref x0), none, none, some (.int x3), some (.int s.1), some (.int s.2.1), some (.int s.2.2.1), none] [] s.2.2.2) : J Y_X11_alike X 0 0 57 [some (.ref x0), none, none, some (.int x3), some (.int x4), some (.int x5), some (.int x6), none] [] g (f_X11_alike_57 N x0 x3 x4 x5 x6 g) K := by
  unfold f_X11_alike_57
  refine J_iload rfl (show Dc Y_X11_alike 57 (.iload 6) 2 59 from ⟨by decide +kernel, rfl⟩) ?_
  refine J_if_le (tg := 116) (show Dc Y_X11_alike 59 (.ifCond .le 57) 3 62 from ⟨by decide +kernel, rfl⟩) (by decide) (fun h => ?_) (fun h => ?_)
  · refine J_map (f := Sum.inr) (fun _ h => h) ?_
    refine J_iload_n rfl rfl (show Dc Y_X11_alike 116 (.iload_n 3) 1 117 from ⟨by decide +kernel, rfl⟩) ?_
    exact J_reti (show Dc Y_X11_alike 117 (.ireturn) 1 118 from ⟨by decide +kernel, rfl⟩) rfl (h0 _ _) (by decide) (by decide)
  · refine J_aload_n rfl rfl (show Dc Y_X11_alike 62 (.aload_n 0) 1 63 from ⟨by decide +kernel, rfl⟩) ?_
    refine J_iload rfl (show Dc Y_X11_alike 63 (.iload 4) 2 65 from ⟨by decide +kernel, rfl⟩) ?_
    refine J_iload rfl (show Dc Y_X11_alike 65 (.iload 5) 2 67 from ⟨by decide +kernel, rfl⟩) ?_
    refine J_iload rfl (show Dc Y_X11_alike 67 (.iload 6) 2 69 from ⟨by decide +kernel, rfl⟩) ?_
    refine J_callVi (fun r => r) (fun _ => g) (show Dc Y_X11_alike 69 (.invokevirtual 383) 3 72 from ⟨by decide +kernel, rfl⟩) w_m_RX11_383 w_in_X11_leastOfLongest rfl w_se_X11_leastOfLongest w_cw_X11_leastOfLongest (c_X11_leastOfLongest N x0 x4 x5 x6 g) rfl rfl (by decide) (Nat.le_of_ble_eq_true rfl) (by decide) (by decide) (fun v1 => ?_)
    refine J_istore [some (.ref x0), none, none, some (.int x3), some (.int x4), some (.int x5), some (.int x6), some (.int v1)] (show Dc Y_X11_alike 72 (.istore 7) 2 74 from ⟨by decide +kernel, rfl⟩) (by decide) rfl rfl ?_
    refine J_aload_n rfl rfl (show Dc Y_X11_alike 74 (.aload_n 0) 1 75 from ⟨by decide +kernel, rfl⟩) ?_
    refine J_getR (show Dc Y_X11_alike 75 (.getfield 19) 3 78 from ⟨by decide +kernel, rfl⟩) w_f_RX11_19 rfl (fun v2 => ?_)
    refine J_iload rfl (show Dc Y_X11_alike 78 (.iload 7) 2 80 from ⟨by decide +kernel, rfl⟩) ?_
    refine J_i2l (show Dc Y_X11_alike 80 (.i2l) 1 81 from ⟨by decide +kernel, rfl⟩) ?_
    refine J_callVv (fun r => r) (show Dc Y_X11_alike 81 (.invokevirtual 260) 3 84 from ⟨by decide +kernel, rfl⟩) w_m_RX11_260 w_in_X9_add rfl w_se_X9_add w_cw_X9_add (c_X9_add v2 v1.toInt64 g) rfl rfl (by decide) (Nat.le_of_ble_eq_true rfl) (by decide) (by decide) (fun g3 => ?_)
    refine J_aload_n rfl rfl (show Dc Y_X11_alike 84 (.aload_n 0) 1 85 from ⟨by decide +kernel, rfl⟩) ?_
    refine J_getR (show Dc Y_X11_alike 85 (.getfield 79) 3 88 from ⟨by decide +kernel, rfl⟩) w_f_RX11_79 rfl (fun v4 => ?_)
    refine J_iload rfl (show Dc Y_X11_alike 88 (.iload 7) 2 90 from ⟨by decide +kernel, rfl⟩) ?_
    refine J_callVi (fun r => r) (fun _ => g3) (show Dc Y_X11_alike 90 (.invokevirtual 332) 3 93 from ⟨by decide +kernel, rfl⟩) w_m_RX11_332 w_in_X10_placeOf rfl w_se_X10_placeOf w_cw_X10_placeOf (c_X10_placeOf N v4 v1 g3) rfl rfl (by decide) (Nat.le_of_ble_eq_true rfl) (by decide) (by decide) (fun v5 => ?_)
    refine J_iconst (1 : Int32) rfl (show Dc Y_X11_alike 93 (.iconst 1) 1 94 from ⟨by decide +kernel, rfl⟩) ?_
    refine J_iadd (show Dc Y_X11_alike 94 (.iadd) 1 95 from ⟨by decide +kernel, rfl⟩) ?_
    refine J_istore [some (.ref x0), none, none, some (.int x3), some (.int (v5 + (1 : Int32))), some (.int x5), some (.int x6), some (.int v1)] (show Dc Y_X11_alike 95 (.istore 4) 2 97 from ⟨by decide +kernel, rfl⟩) (by decide) rfl rfl ?_
    refine J_aload_n rfl rfl (show Dc Y_X11_alike 97 (.aload_n 0) 1 98 from ⟨by decide +kernel, rfl⟩) ?_
    refine J_getR (show Dc Y_X11_alike 98 (.getfield 83) 3 101 from ⟨by decide +kernel, rfl⟩) w_f_RX11_83 rfl (fun v6 => ?_)
    refine J_iload rfl (show Dc Y_X11_alike 101 (.iload 7) 2 103 from ⟨by decide +kernel, rfl⟩) ?_
    refine J_callVi (fun r => r) (fun _ => g3) (show Dc Y_X11_alike 103 (.invokevirtual 332) 3 106 from ⟨by decide +kernel, rfl⟩) w_m_RX11_332 w_in_X10_placeOf rfl w_se_X10_placeOf w_cw_X10_placeOf (c_X10_placeOf N v6 v1 g3) rfl rfl (by decide) (Nat.le_of_ble_eq_true rfl) (by decide) (by decide) (fun v7 => ?_)
    refine J_iconst (1 : Int32) rfl (show Dc Y_X11_alike 106 (.iconst 1) 1 107 from ⟨by decide +kernel, rfl⟩) ?_
    refine J_iadd (show Dc Y_X11_alike 107 (.iadd) 1 108 from ⟨by decide +kernel, rfl⟩) ?_
    refine J_istore [some (.ref x0), none, none, some (.int x3), some (.int (v5 + (1 : Int32))), some (.int (v7 + (1 : Int32))), some (.int x6), some (.int v1)] (show Dc Y_X11_alike 108 (.istore 5) 2 110 from ⟨by decide +kernel, rfl⟩) (by decide) rfl rfl ?_
    refine J_iinc (-1 : Int32) [some (.ref x0), none, none, some (.int x3), some (.int (v5 + (1 : Int32))), some (.int (v7 + (1 : Int32))), some (.int (x6 + (-1 : Int32))), some (.int v1)] (show Dc Y_X11_alike 110 (.iinc 6 (-1)) 3 113 from ⟨by decide +kernel, rfl⟩) rfl rfl (by decide) rfl rfl ?_
    refine J_goto (tg := 57) (show Dc Y_X11_alike 113 (.goto (-56)) 3 116 from ⟨by decide +kernel, rfl⟩) (by decide) ?_
    refine J_mask [true, false, false, true, true, true, true, false] ?_
    exact J_leaf (fun h => hL57 (v5 + (1 : Int32), v7 + (1 : Int32), x6 + (-1 : Int32), g3) h)

theorem j_X11_alike {X : ZX} (N : Nat) (x0 : Nat) (x1 : Int32) (x2 : Int32)   (g : ZS) {K : (Int32 × ZS) → Prop} (h0 : ∀ v g, K (v, g) → xK X (some (.int v)) g) : J Y_X11_alike X 0 0 0 [some (.ref x0), some (.int x1), some (.int x2), none, none, none, none, none] [] g (f_X11_alike N x0 x1 x2 g) K := by
  unfold f_X11_alike
  refine J_aload_n rfl rfl (show Dc Y_X11_alike 0 (.aload_n 0) 1 1 from ⟨by decide +kernel, rfl⟩) ?_
  refine J_iload_n rfl rfl (show Dc Y_X11_alike 1 (.iload_n 1) 1 2 from ⟨by decide +kernel, rfl⟩) ?_
  refine J_iload_n rfl rfl (show Dc Y_X11_alike 2 (.iload_n 2) 1 3 from ⟨by decide +kernel, rfl⟩) ?_
  refine J_callVi (fun r => r) (fun _ => g) (show Dc Y_X11_alike 3 (.invokevirtual 368) 3 6 from ⟨by decide +kernel, rfl⟩) w_m_RX11_368 w_in_X11_isPair rfl w_se_X11_isPair w_cw_X11_isPair (c_X11_isPair x0 x1 x2 g) rfl rfl (by decide) (Nat.le_of_ble_eq_true rfl) (by decide) (by decide) (fun v1 => ?_)
  refine J_if_ne (tg := 11) (show Dc Y_X11_alike 6 (.ifCond .ne 5) 3 9 from ⟨by decide +kernel, rfl⟩) (by decide) (fun h => ?_) (fun h => ?_)
  · refine J_aload_n rfl rfl (show Dc Y_X11_alike 11 (.aload_n 0) 1 12 from ⟨by decide +kernel, rfl⟩) ?_
    refine J_iload_n rfl rfl (show Dc Y_X11_alike 12 (.iload_n 1) 1 13 from ⟨by decide +kernel, rfl⟩) ?_
    refine J_iload_n rfl rfl (show Dc Y_X11_alike 13 (.iload_n 2) 1 14 from ⟨by decide +kernel, rfl⟩) ?_
    refine J_callVv (fun r => r) (show Dc Y_X11_alike 14 (.invokevirtual 372) 3 17 from ⟨by decide +kernel, rfl⟩) w_m_RX11_372 w_in_X11_followBoth rfl w_se_X11_followBoth w_cw_X11_followBoth (c_X11_followBoth N x0 x1 x2 g) rfl rfl (by decide) (Nat.le_of_ble_eq_true rfl) (by decide) (by decide) (fun g2 => ?_)
    refine J_aload_n rfl rfl (show Dc Y_X11_alike 17 (.aload_n 0) 1 18 from ⟨by decide +kernel, rfl⟩) ?_
    refine J_getR (show Dc Y_X11_alike 18 (.getfield 79) 3 21 from ⟨by decide +kernel, rfl⟩) w_f_RX11_79 rfl (fun v3 => ?_)
    refine J_aload_n rfl rfl (show Dc Y_X11_alike 21 (.aload_n 0) 1 22 from ⟨by decide +kernel, rfl⟩) ?_
    refine J_getR (show Dc Y_X11_alike 22 (.getfield 83) 3 25 from ⟨by decide +kernel, rfl⟩) w_f_RX11_83 rfl (fun v4 => ?_)
    refine J_callVv (fun r => r) (show Dc Y_X11_alike 25 (.invokevirtual 375) 3 28 from ⟨by decide +kernel, rfl⟩) w_m_RX11_375 w_in_X10_compare rfl w_se_X10_compare w_cw_X10_compare (c_X10_compare N v3 v4 g2) rfl rfl (by decide) (Nat.le_of_ble_eq_true rfl) (by decide) (by decide) (fun g5 => ?_)
    refine J_aload_n rfl rfl (show Dc Y_X11_alike 28 (.aload_n 0) 1 29 from ⟨by decide +kernel, rfl⟩) ?_
    refine J_getR (show Dc Y_X11_alike 29 (.getfield 19) 3 32 from ⟨by decide +kernel, rfl⟩) w_f_RX11_19 rfl (fun v6 => ?_)
    refine J_iconst (0 : Int32) rfl (show Dc Y_X11_alike 32 (.iconst 0) 1 33 from ⟨by decide +kernel, rfl⟩) ?_
    refine J_putI (show Dc Y_X11_alike 33 (.putfield 254) 3 36 from ⟨by decide +kernel, rfl⟩) w_f_RX11_254 rfl rfl (fun g7 => ?_) (fun h => by cases h)
    refine J_aload_n rfl rfl (show Dc Y_X11_alike 36 (.aload_n 0) 1 37 from ⟨by decide +kernel, rfl⟩) ?_
    refine J_getR (show Dc Y_X11_alike 37 (.getfield 79) 3 40 from ⟨by decide +kernel, rfl⟩) w_f_RX11_79 rfl (fun v8 => ?_)
    refine J_getR (show Dc Y_X11_alike 40 (.getfield 379) 3 43 from ⟨by decide +kernel, rfl⟩) w_f_RX11_379 rfl (fun v9 => ?_)
    refine J_iconst (0 : Int32) rfl (show Dc Y_X11_alike 43 (.iconst 0) 1 44 from ⟨by decide +kernel, rfl⟩) ?_
    refine J_aald (kd := 27) (by decide) (by decide) (show Dc Y_X11_alike 44 (.aaload) 1 45 from ⟨by decide +kernel, rfl⟩) (fun v10 => ?_)
    refine J_iconst (0 : Int32) rfl (show Dc Y_X11_alike 45 (.iconst 0) 1 46 from ⟨by decide +kernel, rfl⟩) ?_
    refine J_iald (show Dc Y_X11_alike 46 (.iaload) 1 47 from ⟨by decide +kernel, rfl⟩) (fun v11 => ?_)
    refine J_istore_n [some (.ref x0), some (.int x1), some (.int x2), some (.int v11), none, none, none, none] (show Dc Y_X11_alike 47 (.istore_n 3) 1 48 from ⟨by decide +kernel, rfl⟩) rfl (by decide) rfl rfl ?_
    refine J_iconst (0 : Int32) rfl (show Dc Y_X11_alike 48 (.iconst 0) 1 49 from ⟨by decide +kernel, rfl⟩) ?_
    refine J_istore [some (.ref x0), some (.int x1), some (.int x2), some (.int v11), some (.int (0 : Int32)), none, none, none] (show Dc Y_X11_alike 49 (.istore 4) 2 51 from ⟨by decide +kernel, rfl⟩) (by decide) rfl rfl ?_
    refine J_iconst (0 : Int32) rfl (show Dc Y_X11_alike 51 (.iconst 0) 1 52 from ⟨by decide +kernel, rfl⟩) ?_
    refine J_istore [some (.ref x0), some (.int x1), some (.int x2), some (.int v11), some (.int (0 : Int32)), some (.int (0 : Int32)), none, none] (show Dc Y_X11_alike 52 (.istore 5) 2 54 from ⟨by decide +kernel, rfl⟩) (by decide) rfl rfl ?_
    refine J_iload_n rfl rfl (show Dc Y_X11_alike 54 (.iload_n 3) 1 55 from ⟨by decide +kernel, rfl⟩) ?_
    refine J_istore [some (.ref x0), some (.int x1), some (.int x2), some (.int v11), some (.int (0 : Int32)), some (.int (0 : Int32)), some (.int v11), none] (show Dc Y_X11_alike 55 (.istore 6) 2 57 from ⟨by decide +kernel, rfl⟩) (by decide) rfl rfl ?_
    refine J_mask [true, false, false, true, true, true, true, false] ?_
    exact J_loop (X := X) (K := K) (uc := fun _ => 0) (us := fun _ => 0) (lf := fun s => [some (.ref x0), none, none, some (.int v11), some (.int s.1), some (.int s.2.1), some (.int s.2.2.1), none]) (gf := fun s => s.2.2.2) (fun s => j_X11_alike_57 (K := zKl Y_X11_alike X 57 (fun _ => 0) (fun _ => 0) (fun s => [some (.ref x0), none, none, some (.int v11), some (.int s.1), some (.int s.2.1), some (.int s.2.2.1), none]) (fun s => s.2.2.2) K) N x0 v11 s.1 s.2.1 s.2.2.1 s.2.2.2 h0 (fun s h => h)) N ((0 : Int32), (0 : Int32), v11, g7)
  · refine J_iconst (-1 : Int32) rfl (show Dc Y_X11_alike 9 (.iconst (-1)) 1 10 from ⟨by decide +kernel, rfl⟩) ?_
    exact J_reti (show Dc Y_X11_alike 10 (.ireturn) 1 11 from ⟨by decide +kernel, rfl⟩) rfl (h0 _ _) (by decide) (by decide)

theorem c_X11_alike {l : Launch} {D : ZD} {B0 : Nat} (N : Nat) (x0 : Nat) (x1 : Int32) (x2 : Int32) (g : ZS) : ∀ r, f_X11_alike N x0 x1 x2 g = some r → zCt l D B0 yX11_alike Y_X11_alike [.ref x0, .int x1, .int x2] g (some (.int r.1)) r.2 :=
  zCt_ofF (vo := fun r => some (.int r.1)) (so := fun r => r.2) (by decide +kernel) rfl (fun h => by cases h) rfl (Nat.le_of_ble_eq_true rfl) (fun X => j_X11_alike N x0 x1 x2 g (fun _ _ h => h))

theorem j_X12_areTwo_26 {X : ZX}  (s0 : Int32)  (g : ZS) {K : Int32 → Prop} (h0 : ∀ v, K v → xK X (some (.int v)) g) : J Y_X12_areTwo X 0 0 26 [none, none, none] [.int s0] g (f_X12_areTwo_26 s0 g) K := by
  unfold f_X12_areTwo_26
  exact J_retZ (show Dc Y_X12_areTwo 26 (.ireturn) 1 27 from ⟨by decide +kernel, rfl⟩) rfl (h0 _) (by decide) (by decide)

theorem j_X12_areTwo_25 {X : ZX}    (g : ZS) {K : Int32 → Prop} (h0 : ∀ v, K v → xK X (some (.int v)) g) : J Y_X12_areTwo X 0 0 25 [none, none, none] [] g (f_X12_areTwo_25 g) K := by
  unfold f_X12_areTwo_25
  refine J_iconst (0 : Int32) rfl (show Dc Y_X12_areTwo 25 (.iconst 0) 1 26 from ⟨by decide +kernel, rfl⟩) ?_
  exact j_X12_areTwo_26 (0 : Int32) g h0

theorem j_X12_areTwo {X : ZX} (x0 : Nat) (x1 : Int32) (x2 : Int32)   (g : ZS) {K : Int32 → Prop} (h0 : ∀ v, K v → xK X (some (.int v)) g) : J Y_X12_areTwo X 0 0 0 [some (.ref x0), some (.int x1), some (.int x2)] [] g (f_X12_areTwo x0 x1 x2 g) K := by
  unfold f_X12_areTwo
  refine J_aload_n rfl rfl (show Dc Y_X12_areTwo 0 (.aload_n 0) 1 1 from ⟨by decide +kernel, rfl⟩) ?_
  refine J_iload_n rfl rfl (show Dc Y_X12_areTwo 1 (.iload_n 1) 1 2 from ⟨by decide +kernel, rfl⟩) ?_
  refine J_callVi (fun r => r) (fun _ => g) (show Dc Y_X12_areTwo 2 (.invokevirtual 234) 3 5 from ⟨by decide +kernel, rfl⟩) w_m_RX12_234 w_in_X12_isParrot rfl w_se_X12_isParrot w_cw_X12_isParrot (c_X12_isParrot x0 x1 g) rfl rfl (by decide) (Nat.le_of_ble_eq_true rfl) (by decide) (by decide) (fun v1 => ?_)
  refine J_if_eq (tg := 25) (show Dc Y_X12_areTwo 5 (.ifCond .eq 20) 3 8 from ⟨by decide +kernel, rfl⟩) (by decide) (fun h => ?_) (fun h => ?_)
  · refine J_mask [false, false, false] ?_
    exact j_X12_areTwo_25 g h0
  · refine J_aload_n rfl rfl (show Dc Y_X12_areTwo 8 (.aload_n 0) 1 9 from ⟨by decide +kernel, rfl⟩) ?_
    refine J_iload_n rfl rfl (show Dc Y_X12_areTwo 9 (.iload_n 2) 1 10 from ⟨by decide +kernel, rfl⟩) ?_
    refine J_callVi (fun r => r) (fun _ => g) (show Dc Y_X12_areTwo 10 (.invokevirtual 234) 3 13 from ⟨by decide +kernel, rfl⟩) w_m_RX12_234 w_in_X12_isParrot rfl w_se_X12_isParrot w_cw_X12_isParrot (c_X12_isParrot x0 x2 g) rfl rfl (by decide) (Nat.le_of_ble_eq_true rfl) (by decide) (by decide) (fun v2 => ?_)
    refine J_if_eq (tg := 25) (show Dc Y_X12_areTwo 13 (.ifCond .eq 12) 3 16 from ⟨by decide +kernel, rfl⟩) (by decide) (fun h => ?_) (fun h => ?_)
    · refine J_mask [false, false, false] ?_
      exact j_X12_areTwo_25 g h0
    · refine J_iload_n rfl rfl (show Dc Y_X12_areTwo 16 (.iload_n 1) 1 17 from ⟨by decide +kernel, rfl⟩) ?_
      refine J_iload_n rfl rfl (show Dc Y_X12_areTwo 17 (.iload_n 2) 1 18 from ⟨by decide +kernel, rfl⟩) ?_
      refine J_icmp_eq (tg := 25) (show Dc Y_X12_areTwo 18 (.if_icmp .eq 7) 3 21 from ⟨by decide +kernel, rfl⟩) (by decide) (fun h => ?_) (fun h => ?_)
      · refine J_mask [false, false, false] ?_
        exact j_X12_areTwo_25 g h0
      · refine J_iconst (1 : Int32) rfl (show Dc Y_X12_areTwo 21 (.iconst 1) 1 22 from ⟨by decide +kernel, rfl⟩) ?_
        refine J_goto (tg := 26) (show Dc Y_X12_areTwo 22 (.goto 4) 3 25 from ⟨by decide +kernel, rfl⟩) (by decide) ?_
        refine J_mask [false, false, false] ?_
        exact j_X12_areTwo_26 (1 : Int32) g h0

theorem c_X12_areTwo {l : Launch} {D : ZD} {B0 : Nat} (x0 : Nat) (x1 : Int32) (x2 : Int32) (g : ZS) : ∀ r, f_X12_areTwo x0 x1 x2 g = some r → zCt l D B0 yX12_areTwo Y_X12_areTwo [.ref x0, .int x1, .int x2] g (some (.int r)) g :=
  zCt_ofF (vo := fun r => some (.int r)) (so := fun _ => g) (by decide +kernel) rfl (fun h => by cases h) rfl (Nat.le_of_ble_eq_true rfl) (fun X => j_X12_areTwo x0 x1 x2 g (fun _ h => h))
