def f_X12_spotOf_2 (N : Nat) (x0 : Nat) (x1 : Int32) (x2 : Int32) (x3 : Int32)  (g : ZS) : Option ((Int32) ⊕ Int32) :=
  if x1 ≤ x3 then
    (
      some (-1 : Int32)).map Sum.inr
  else
    (zald 20 g x0 x3).bind fun v1 =>
    if v1 = x2 then
      (
        some x3).map Sum.inr
    else
      some (.inl (x3 + (1 : Int32)))

def f_X12_spotOf (N : Nat) (x0 : Nat) (x1 : Int32) (x2 : Int32)  (g : ZS) : Option Int32 :=
  zloop (fun s => f_X12_spotOf_2 N x0 x1 x2 s g) N (0 : Int32)

def f_X12_isLess_42 (N : Nat)  (s0 : Int32) (g : ZS) : Option Int32 :=
  if vp_nar .boolean s0 = s0 then some s0 else none

def f_X12_isLess_2 (N : Nat) (x0 : Nat) (x1 : Int32) (x2 : Int32)  (g : ZS) : Option ((Int32) ⊕ Int32) :=
  if x1 ≤ x2 then
    (
      some (0 : Int32)).map Sum.inr
  else
    (zrdR g x0 12 32).bind fun v1 =>
    (zald 20 g v1 x2).bind fun v2 =>
    (zrdR g x0 12 33).bind fun v3 =>
    (zald 20 g v3 x2).bind fun v4 =>
    if v2 = v4 then
      some (.inl (x2 + (1 : Int32)))
    else
      (
        (zrdR g x0 12 32).bind fun v5 =>
        (zald 20 g v5 x2).bind fun v6 =>
        (zrdR g x0 12 33).bind fun v7 =>
        (zald 20 g v7 x2).bind fun v8 =>
        if v8 ≤ v6 then
          f_X12_isLess_42 N (0 : Int32) g
        else
          f_X12_isLess_42 N (1 : Int32) g).map Sum.inr

def f_X12_isLess (N : Nat) (x0 : Nat) (x1 : Int32)  (g : ZS) : Option Int32 :=
  zloop (fun s => f_X12_isLess_2 N x0 x1 s g) N (0 : Int32)

def f_X10_isAhead_18 (N : Nat)  (s0 : Int32) (g : ZS) : Option Int32 :=
  if vp_nar .boolean s0 = s0 then some s0 else none

def f_X10_isAhead (N : Nat) (x0 : Nat) (x1 : Int32) (x2 : Int32)  (g : ZS) : Option Int32 :=
  zvs g x0 10 <| (f_X10_placeOf N x0 x1 g).bind fun v1 =>
  zvs g x0 10 <| (f_X10_placeOf N x0 x2 g).bind fun v2 =>
  if v2 ≤ v1 then
    f_X10_isAhead_18 N (0 : Int32) g
  else
    f_X10_isAhead_18 N (1 : Int32) g

def f_X11_unlike_117 (N : Nat) (x0 : Nat) (x3 : Int32) (x4 : Int32) (x5 : Int32) (x6 : Int32)  (g : ZS) : Option ((Int32 × Int32) ⊕ ((Int32 × Int32) ⊕ (Int32 × ZS))) :=
  some (.inl (x4, x6 + (1 : Int32)))

def f_X11_unlike_82 (N : Nat) (x0 : Nat) (x3 : Int32) (x4 : Int32) (x5 : Int32) (x6 : Int32) (s0 : Int32) (g : ZS) : Option ((Int32 × Int32) ⊕ ((Int32 × Int32) ⊕ (Int32 × ZS))) :=
  if s0 = 0 then
    f_X11_unlike_117 N x0 x3 x4 x5 x6 g
  else
    (zrdR g x0 11 12).bind fun v1 =>
    zvs g v1 10 <| (f_X10_isAhead N v1 x5 x6 g).bind fun v2 =>
    (zrdR g x0 11 13).bind fun v3 =>
    zvs g v3 10 <| (f_X10_isAhead N v3 x5 x6 g).bind fun v4 =>
    if v2 = v4 then
      f_X11_unlike_117 N x0 x3 x4 x5 x6 g
    else
      f_X11_unlike_117 N x0 x3 (x4 + (1 : Int32)) x5 x6 g

def f_X11_unlike_56 (N : Nat) (x0 : Nat) (x3 : Int32) (x4 : Int32) (x5 : Int32) (x6 : Int32)  (g : ZS) : Option ((Int32 × Int32) ⊕ ((Int32 × Int32) ⊕ (Int32 × ZS))) :=
  if (8 : Int32) ≤ x6 then
    (
      some (.inl (x4, x5 + (1 : Int32)))).map Sum.inr
  else
    if (((x3 >>> (x5 &&& 31)) &&& (x3 >>> (x6 &&& 31))) &&& (1 : Int32)) = 0 then
      f_X11_unlike_82 N x0 x3 x4 x5 x6 (0 : Int32) g
    else
      f_X11_unlike_82 N x0 x3 x4 x5 x6 (1 : Int32) g

def f_X11_unlike_43 (N : Nat) (x0 : Nat) (x3 : Int32) (x4 : Int32) (x5 : Int32)  (g : ZS) : Option ((Int32 × Int32) ⊕ (Int32 × ZS)) :=
  if (8 : Int32) ≤ x5 then
    (
      (zrdR g x0 11 1).bind fun v1 =>
      (f_J6_bitCount_0f7a4 x3).bind fun v2 =>
      zvs g v1 9 <| (f_X9_only v1 v2.toInt64 g).bind fun g3 =>
      some (x4, g3)).map Sum.inr
  else
    zloop (fun s => f_X11_unlike_56 N x0 x3 s.1 x5 s.2 g) N (x4, x5 + (1 : Int32))

def f_X11_unlike (N : Nat) (x0 : Nat) (x1 : Int32) (x2 : Int32)  (g : ZS) : Option (Int32 × ZS) :=
  zvs g x0 11 <| (f_X11_isPair x0 x1 x2 g).bind fun v1 =>
  if v1 = 0 then
    some ((-1 : Int32), g)
  else
    zvs g x0 11 <| (f_X11_followBoth N x0 x1 x2 g).bind fun g2 =>
    (zrdR g2 x0 11 12).bind fun v3 =>
    zvs g2 v3 10 <| (f_X10_bits N v3 (8 : Int32) g2).bind fun v4 =>
    (zrdR g2 x0 11 13).bind fun v5 =>
    zvs g2 v5 10 <| (f_X10_bits N v5 (8 : Int32) g2).bind fun v6 =>
    zloop (fun s => f_X11_unlike_43 N x0 (v4 &&& v6) s.1 s.2 g2) N ((0 : Int32), (0 : Int32))

def f_X7_add_39   (g : ZS) : Option ZS :=
  some g

def f_X7_add (x0 : Nat) (x1 : Int32) (x2 : Int32)  (g : ZS) : Option ZS :=
  (zrdI g x0 7 5).bind fun v1 =>
  if (12 : Int32) ≤ v1 then
    f_X7_add_39 g
  else
    (zrdR g x0 7 0).bind fun v2 =>
    (zrdI g x0 7 5).bind fun v3 =>
    (zast 20 g v2 v3 x1).bind fun g4 =>
    (zrdR g4 x0 7 1).bind fun v5 =>
    (zrdI g4 x0 7 5).bind fun v6 =>
    (zast 20 g4 v5 v6 x2).bind fun g7 =>
    (zrdI g7 x0 7 5).bind fun v8 =>
    (zwrI g7 x0 7 5 (v8 + (1 : Int32))).bind fun g9 =>
    f_X7_add_39 g9

def f_X11_before_31   (g : ZS) : Option (Int32 × ZS) :=
  some ((-1 : Int32), g)

def f_X11_before (x0 : Nat) (x1 : Int32) (x2 : Int32)  (g : ZS) : Option (Int32 × ZS) :=
  (f_X11_isWord x1).bind fun v1 =>
  if v1 = 0 then
    f_X11_before_31 g
  else
    (f_X11_isWord x2).bind fun v2 =>
    if v2 = 0 then
      f_X11_before_31 g
    else
      if x1 = x2 then
        f_X11_before_31 g
      else
        (zrdR g x0 11 14).bind fun v3 =>
        (zrdI g v3 7 5).bind fun v4 =>
        if v4 < (12 : Int32) then
          (zrdR g x0 11 14).bind fun v5 =>
          zvs g v5 7 <| (f_X7_add v5 x1 x2 g).bind fun g6 =>
          (zrdR g6 x0 11 14).bind fun v7 =>
          (zrdI g6 v7 7 5).bind fun v8 =>
          some (v8, g6)
        else
          f_X11_before_31 g

def f_X12_before_33   (g : ZS) : Option (Int32 × ZS) :=
  some ((-1 : Int32), g)

def f_X12_before (x0 : Nat) (x1 : Int32) (x2 : Int32)  (g : ZS) : Option (Int32 × ZS) :=
  (zwrI g x0 12 10 (0 : Int32)).bind fun g1 =>
  (f_X12_isWord x1).bind fun v2 =>
  if v2 = 0 then
    f_X12_before_33 g1
  else
    (f_X12_isWord x2).bind fun v3 =>
    if v3 = 0 then
      f_X12_before_33 g1
    else
      if x1 = x2 then
        f_X12_before_33 g1
      else
        (zrdI g1 x0 12 36).bind fun v4 =>
        if v4 = (12 : Int32) then
          f_X12_before_33 g1
        else
          (zrdR g1 x0 12 34).bind fun v5 =>
          (zrdI g1 x0 12 36).bind fun v6 =>
          (zast 20 g1 v5 v6 x1).bind fun g7 =>
          (zrdR g7 x0 12 35).bind fun v8 =>
          (zrdI g7 x0 12 36).bind fun v9 =>
          (zast 20 g7 v8 v9 x2).bind fun g10 =>
          (zrdI g10 x0 12 36).bind fun v11 =>
          (zwrI g10 x0 12 36 (v11 + (1 : Int32))).bind fun g12 =>
          (zrdI g12 x0 12 36).bind fun v13 =>
          some (v13, g12)

def f_X11_forget (x0 : Nat)  (g : ZS) : Option (Int32 × ZS) :=
  (zrdR g x0 11 14).bind fun v1 =>
  (zrdI g v1 7 5).bind fun v2 =>
  (zrdR g x0 11 14).bind fun v3 =>
  (zwrI g v3 7 5 (0 : Int32)).bind fun g4 =>
  some (v2, g4)

def f_X12_forget (x0 : Nat)  (g : ZS) : Option (Int32 × ZS) :=
  (zwrI g x0 12 10 (0 : Int32)).bind fun g1 =>
  (zrdI g1 x0 12 36).bind fun v2 =>
  (zwrI g1 x0 12 36 (0 : Int32)).bind fun g3 =>
  some (v2, g3)

def f_X7_gatherNexts_23 (N : Nat) (x0 : Nat) (x1 : Int32)  (g : ZS) : Option ((Int32 × ZS) ⊕ ZS) :=
  (zrdI g x0 7 5).bind fun v1 =>
  if v1 ≤ x1 then
    (
      some g).map Sum.inr
  else
    (zrdR g x0 7 2).bind fun v2 =>
    (zrdR g x0 7 0).bind fun v3 =>
    (zald 20 g v3 x1).bind fun v4 =>
    (zald 20 g v2 v4).bind fun v5 =>
    (zrdR g x0 7 1).bind fun v6 =>
    (zald 20 g v6 x1).bind fun v7 =>
    (zast 20 g v2 v4 (v5 ||| ((1 : Int32) <<< (v7 &&& 31)))).bind fun g8 =>
    some (.inl (x1 + (1 : Int32), g8))

def f_X7_gatherNexts_2 (N : Nat) (x0 : Nat) (x1 : Int32)  (g : ZS) : Option ((Int32 × ZS) ⊕ ZS) :=
  if (8 : Int32) ≤ x1 then
    (
      zloop (fun s => f_X7_gatherNexts_23 N x0 s.1 s.2) N ((0 : Int32), g)).map Sum.inr
  else
    (zrdR g x0 7 2).bind fun v1 =>
    (zast 20 g v1 x1 (0 : Int32)).bind fun g2 =>
    some (.inl (x1 + (1 : Int32), g2))

def f_X7_gatherNexts (N : Nat) (x0 : Nat)  (g : ZS) : Option ZS :=
  zloop (fun s => f_X7_gatherNexts_2 N x0 s.1 s.2) N ((0 : Int32), g)

def f_X7_hasRing_69 (N : Nat) (x0 : Nat) (x1 : Int32) (x2 : Int32) (x3 : Int32) (x4 : Int32) (s0 : Nat) (s1 : Int32) (s2 : Int32) (s3 : Int32) (g : ZS) : Option ((Int32 × ZS) ⊕ ((Int32 × ZS) ⊕ (Int32 × ZS))) :=
  (zast 20 g s0 s1 (s2 ||| s3)).bind fun g1 =>
  some (.inl (x4 + (1 : Int32), g1))

def f_X7_hasRing_28 (N : Nat) (x0 : Nat) (x1 : Int32) (x2 : Int32) (x3 : Int32) (x4 : Int32)  (g : ZS) : Option ((Int32 × ZS) ⊕ ((Int32 × ZS) ⊕ (Int32 × ZS))) :=
  if (8 : Int32) ≤ x4 then
    (
      some (.inl (x3 + (1 : Int32), g))).map Sum.inr
  else
    (zrdR g x0 7 3).bind fun v1 =>
    (zald 20 g v1 x3).bind fun v2 =>
    (zrdR g x0 7 2).bind fun v3 =>
    (zald 20 g v3 x4).bind fun v4 =>
    (zrdR g x0 7 3).bind fun v5 =>
    (zald 20 g v5 (x3 - (1 : Int32))).bind fun v6 =>
    if (v4 &&& v6) = 0 then
      f_X7_hasRing_69 N x0 x1 x2 x3 x4 v1 x3 v2 (0 : Int32) g
    else
      f_X7_hasRing_69 N x0 x1 x2 x3 x4 v1 x3 v2 ((1 : Int32) <<< (x4 &&& 31)) g

def f_X7_hasRing_106 (N : Nat)  (s0 : Int32) (g : ZS) : Option (Int32 × ZS) :=
  if vp_nar .boolean s0 = s0 then some (s0, g) else none

def f_X7_hasRing_11 (N : Nat) (x0 : Nat) (x1 : Int32) (x2 : Int32) (x3 : Int32)  (g : ZS) : Option ((Int32 × ZS) ⊕ (Int32 × ZS)) :=
  if x2 ≤ x3 then
    (
      (zrdR g x0 7 2).bind fun v1 =>
      (zald 20 g v1 x1).bind fun v2 =>
      (zrdR g x0 7 3).bind fun v3 =>
      (zald 20 g v3 (x2 - (1 : Int32))).bind fun v4 =>
      if (v2 &&& v4) = 0 then
        f_X7_hasRing_106 N (0 : Int32) g
      else
        f_X7_hasRing_106 N (1 : Int32) g).map Sum.inr
  else
    (zrdR g x0 7 3).bind fun v5 =>
    (zast 20 g v5 x3 (0 : Int32)).bind fun g6 =>
    zloop (fun s => f_X7_hasRing_28 N x0 x1 x2 x3 s.1 s.2) N (x1 + (1 : Int32), g6)

def f_X7_hasRing (N : Nat) (x0 : Nat) (x1 : Int32) (x2 : Int32)  (g : ZS) : Option (Int32 × ZS) :=
  (zrdR g x0 7 3).bind fun v1 =>
  (zast 20 g v1 (0 : Int32) ((1 : Int32) <<< (x1 &&& 31))).bind fun g2 =>
  zloop (fun s => f_X7_hasRing_11 N x0 x1 x2 s.1 s.2) N ((1 : Int32), g2)

def f_X7_tellRing_14 (N : Nat) (x0 : Nat) (x3 : Nat) (x4 : Int32) (x5 : Int32)  (g : ZS) : Option ((Int32 × Int32 × ZS) ⊕ ZS) :=
  if x5 < (1 : Int32) then
    (
      some g).map Sum.inr
  else
    (zrdR g x0 7 2).bind fun v1 =>
    (zald 20 g v1 x4).bind fun v2 =>
    (zrdR g x0 7 3).bind fun v3 =>
    (zald 20 g v3 x5).bind fun v4 =>
    (f_X11_lowestOf N (v2 &&& v4)).bind fun v5 =>
    (f_J9_max_7cf53 (0 : Int32) v5).bind fun v6 =>
    zvs g x3 9 <| (f_X9_add x3 v6.toInt64 g).bind fun g7 =>
    some (.inl (v6, x5 + (-1 : Int32), g7))

def f_X7_tellRing (N : Nat) (x0 : Nat) (x1 : Int32) (x2 : Int32) (x3 : Nat)  (g : ZS) : Option ZS :=
  zvs g x3 9 <| (f_X9_only x3 x1.toInt64 g).bind fun g1 =>
  zloop (fun s => f_X7_tellRing_14 N x0 x3 s.1 s.2.1 s.2.2) N (x1, x2 - (1 : Int32), g1)

def f_X11_clash_17 (N : Nat) (x0 : Nat) (x1 : Int32) (x2 : Int32)  (g : ZS) : Option ((Int32 × ZS) ⊕ ((Int32 × ZS) ⊕ (Int32 × ZS))) :=
  if (8 : Int32) ≤ x2 then
    (
      some (.inl (x1 + (1 : Int32), g))).map Sum.inr
  else
    (zrdR g x0 11 14).bind fun v1 =>
    zvs g v1 7 <| (f_X7_hasRing N v1 x2 x1 g).bind fun r2 =>
    if r2.1 = 0 then
      some (.inl (x2 + (1 : Int32), r2.2))
    else
      (
      (
        (zrdR r2.2 x0 11 14).bind fun v3 =>
        (zrdR r2.2 x0 11 1).bind fun v4 =>
        zvs r2.2 v3 7 <| (f_X7_tellRing N v3 x2 x1 v4 r2.2).bind fun g5 =>
        some (x1, g5)).map Sum.inr).map Sum.inr

def f_X11_clash_9 (N : Nat) (x0 : Nat) (x1 : Int32)  (g : ZS) : Option ((Int32 × ZS) ⊕ (Int32 × ZS)) :=
  if (8 : Int32) < x1 then
    (
      some ((-2 : Int32), g)).map Sum.inr
  else
    zloop (fun s => f_X11_clash_17 N x0 x1 s.1 s.2) N ((0 : Int32), g)

def f_X11_clash (N : Nat) (x0 : Nat)  (g : ZS) : Option (Int32 × ZS) :=
  (zrdR g x0 11 14).bind fun v1 =>
  zvs g v1 7 <| (f_X7_gatherNexts N v1 g).bind fun g2 =>
  zloop (fun s => f_X11_clash_9 N x0 s.1 s.2) N ((2 : Int32), g2)

def f_X12_layBehind_61 (N : Nat) (x0 : Nat) (x1 : Int32) (x2 : Int32)  (g : ZS) : Option ((Int32 × ZS) ⊕ ZS) :=
  some (.inl (x2 + (1 : Int32), g))

def f_X12_layBehind_23 (N : Nat) (x0 : Nat) (x1 : Int32) (x2 : Int32)  (g : ZS) : Option ((Int32 × ZS) ⊕ ZS) :=
  (zrdI g x0 12 36).bind fun v1 =>
  if v1 ≤ x2 then
    (
      some g).map Sum.inr
  else
    (f_X12_has x1 x2).bind fun v2 =>
    if v2 = 0 then
      (zrdR g x0 12 37).bind fun v3 =>
      (zrdR g x0 12 34).bind fun v4 =>
      (zald 20 g v4 x2).bind fun v5 =>
      (zald 20 g v3 v5).bind fun v6 =>
      (zrdR g x0 12 35).bind fun v7 =>
      (zald 20 g v7 x2).bind fun v8 =>
      (zast 20 g v3 v5 (v6 ||| ((1 : Int32) <<< (v8 &&& 31)))).bind fun g9 =>
      f_X12_layBehind_61 N x0 x1 x2 g9
    else
      f_X12_layBehind_61 N x0 x1 x2 g

def f_X12_layBehind_2 (N : Nat) (x0 : Nat) (x1 : Int32) (x2 : Int32)  (g : ZS) : Option ((Int32 × ZS) ⊕ ZS) :=
  if (8 : Int32) ≤ x2 then
    (
      zloop (fun s => f_X12_layBehind_23 N x0 x1 s.1 s.2) N ((0 : Int32), g)).map Sum.inr
  else
    (zrdR g x0 12 37).bind fun v1 =>
    (zast 20 g v1 x2 (0 : Int32)).bind fun g2 =>
    some (.inl (x2 + (1 : Int32), g2))

def f_X12_layBehind (N : Nat) (x0 : Nat) (x1 : Int32)  (g : ZS) : Option ZS :=
  zloop (fun s => f_X12_layBehind_2 N x0 x1 s.1 s.2) N ((0 : Int32), g)

def f_X7_costOfBehind_50 (N : Nat) (x0 : Nat) (x1 : Int32) (x2 : Int32) (x3 : Int32) (x4 : Int32)  (g : ZS) : Option ((Int32 × Int32) ⊕ Int32) :=
  some (.inl (x3, x4 + (1 : Int32)))

def f_X7_costOfBehind_5 (N : Nat) (x0 : Nat) (x1 : Int32) (x2 : Int32) (x3 : Int32) (x4 : Int32)  (g : ZS) : Option ((Int32 × Int32) ⊕ Int32) :=
  (zrdI g x0 7 5).bind fun v1 =>
  if v1 ≤ x4 then
    (
      some x3).map Sum.inr
  else
    (zrdR g x0 7 0).bind fun v2 =>
    (zald 20 g v2 x4).bind fun v3 =>
    if v3 = x1 then
      (zrdR g x0 7 1).bind fun v4 =>
      (zald 20 g v4 x4).bind fun v5 =>
      if ((x2 >>> (v5 &&& 31)) &&& (1 : Int32)) = 0 then
        f_X7_costOfBehind_50 N x0 x1 x2 x3 x4 g
      else
        f_X7_costOfBehind_50 N x0 x1 x2 (x3 + ((4096 : Int32) ||| ((1 : Int32) <<< (x4 &&& 31)))) x4 g
    else
      f_X7_costOfBehind_50 N x0 x1 x2 x3 x4 g

def f_X7_costOfBehind (N : Nat) (x0 : Nat) (x1 : Int32) (x2 : Int32)  (g : ZS) : Option Int32 :=
  zloop (fun s => f_X7_costOfBehind_5 N x0 x1 x2 s.1 s.2 g) N ((0 : Int32), (0 : Int32))

def f_X7_leastCost_64 (N : Nat) (x0 : Nat) (x1 : Int32) (x2 : Int32) (x3 : Int32)  (g : ZS) : Option ((Int32 × Int32) ⊕ ((Int32 × ZS) ⊕ (Int32 × ZS))) :=
  some (.inl (x2, x3 + (1 : Int32)))

def f_X7_leastCost_21 (N : Nat) (x0 : Nat) (x1 : Int32) (x2 : Int32) (x3 : Int32)  (g : ZS) : Option ((Int32 × Int32) ⊕ ((Int32 × ZS) ⊕ (Int32 × ZS))) :=
  if (8 : Int32) ≤ x3 then
    (
      (zrdR g x0 7 4).bind fun v1 =>
      (zast 20 g v1 x1 x2).bind fun g2 =>
      some (.inl (x1 + (1 : Int32), g2))).map Sum.inr
  else
    if ((x1 >>> (x3 &&& 31)) &&& (1 : Int32)) = 0 then
      f_X7_leastCost_64 N x0 x1 x2 x3 g
    else
      (zrdR g x0 7 4).bind fun v3 =>
      (zald 20 g v3 (x1 &&& (((1 : Int32) <<< (x3 &&& 31)) ^^^ (-1 : Int32)))).bind fun v4 =>
      zvs g x0 7 <| (f_X7_costOfBehind N x0 x3 (x1 &&& (((1 : Int32) <<< (x3 &&& 31)) ^^^ (-1 : Int32))) g).bind fun v5 =>
      (f_J9_min_7cf53 x2 (v4 + v5)).bind fun v6 =>
      f_X7_leastCost_64 N x0 x1 v6 x3 g

def f_X7_leastCost_9 (N : Nat) (x0 : Nat) (x1 : Int32)  (g : ZS) : Option ((Int32 × ZS) ⊕ (Int32 × ZS)) :=
  if (256 : Int32) ≤ x1 then
    (
      (zrdR g x0 7 4).bind fun v1 =>
      (zald 20 g v1 (255 : Int32)).bind fun v2 =>
      some (v2, g)).map Sum.inr
  else
    zloop (fun s => f_X7_leastCost_21 N x0 x1 s.1 s.2 g) N ((1073741824 : Int32), (0 : Int32))

def f_X7_leastCost (N : Nat) (x0 : Nat)  (g : ZS) : Option (Int32 × ZS) :=
  (zrdR g x0 7 4).bind fun v1 =>
  (zast 20 g v1 (0 : Int32) (0 : Int32)).bind fun g2 =>
  zloop (fun s => f_X7_leastCost_9 N x0 s.1 s.2) N ((1 : Int32), g2)

def f_X11_drop (N : Nat) (x0 : Nat)  (g : ZS) : Option (Int32 × ZS) :=
  (zrdR g x0 11 14).bind fun v1 =>
  zvs g v1 7 <| (f_X7_leastCost N v1 g).bind fun r2 =>
  (zrdR r2.2 x0 11 1).bind fun v3 =>
  zvs r2.2 v3 9 <| (f_X9_only v3 ((r2.1 &&& (4095 : Int32)).toInt64) r2.2).bind fun g4 =>
  some (r2.1 >>> ((12 : Int32) &&& 31), g4)

def f_X12_canBe_66 (N : Nat) (x0 : Nat) (x2 : Int32) (x3 : Int32) (x4 : Int32)  (g : ZS) : Option ((Int32 × Int32 × Int32) ⊕ ((Int32 × Int32) ⊕ (Int32 × ZS))) :=
  some (.inl (x2, x3, x4 + (1 : Int32)))

def f_X12_canBe_24 (N : Nat) (x0 : Nat) (x2 : Int32) (x3 : Int32) (x4 : Int32)  (g : ZS) : Option ((Int32 × Int32 × Int32) ⊕ ((Int32 × Int32) ⊕ (Int32 × ZS))) :=
  if (8 : Int32) ≤ x4 then
    (
      some (.inl (x2, x3))).map Sum.inr
  else
    (f_X12_has x2 x4).bind fun v1 =>
    if v1 = 0 then
      f_X12_canBe_66 N x0 x2 x3 x4 g
    else
      (zrdR g x0 12 37).bind fun v2 =>
      (zald 20 g v2 x4).bind fun v3 =>
      if (v3 &&& x2) = 0 then
        f_X12_canBe_66 N x0 (x2 &&& (((1 : Int32) <<< (x4 &&& 31)) ^^^ (-1 : Int32))) (1 : Int32) x4 g
      else
        f_X12_canBe_66 N x0 x2 x3 x4 g

def f_X12_canBe_84 (N : Nat)  (s0 : Int32) (g : ZS) : Option (Int32 × ZS) :=
  if vp_nar .boolean s0 = s0 then some (s0, g) else none

def f_X12_canBe_75 (N : Nat) (x2 : Int32)  (g : ZS) : Option (Int32 × ZS) :=
  if x2 = 0 then
    f_X12_canBe_84 N (1 : Int32) g
  else
    f_X12_canBe_84 N (0 : Int32) g

def f_X12_canBe_11 (N : Nat) (x0 : Nat) (x2 : Int32) (x3 : Int32)  (g : ZS) : Option ((Int32 × Int32) ⊕ (Int32 × ZS)) :=
  if x2 = 0 then
    (
    f_X12_canBe_75 N x2 g).map Sum.inr
  else
    if x3 = 0 then
      (
      f_X12_canBe_75 N x2 g).map Sum.inr
    else
      zloop (fun s => f_X12_canBe_24 N x0 s.1 s.2.1 s.2.2 g) N (x2, (0 : Int32), (0 : Int32))

def f_X12_canBe (N : Nat) (x0 : Nat) (x1 : Int32)  (g : ZS) : Option (Int32 × ZS) :=
  zvs g x0 12 <| (f_X12_layBehind N x0 x1 g).bind fun g1 =>
  zloop (fun s => f_X12_canBe_11 N x0 s.1 s.2 g1) N ((255 : Int32), (1 : Int32))

def f_X12_drop_47 (N : Nat) (x0 : Nat) (x1 : Int32) (x2 : Int32)  (g : ZS) : Option ((Int32 × Int32 × ZS) ⊕ (Int32 × ZS)) :=
  some (.inl (x1, x2 + (1 : Int32), g))

def f_X12_drop_16 (N : Nat) (x0 : Nat) (x1 : Int32) (x2 : Int32)  (g : ZS) : Option ((Int32 × Int32 × ZS) ⊕ (Int32 × ZS)) :=
  (zrdI g x0 12 36).bind fun v1 =>
  if ((1 : Int32) <<< (v1 &&& 31)) ≤ x2 then
    (
      (zwrI g x0 12 9 (0 : Int32)).bind fun g2 =>
      zvs g2 x0 12 <| (f_X12_tell x0 x1.toInt64 g2).bind fun g3 =>
      (f_J6_bitCount_0f7a4 x1).bind fun v4 =>
      some (v4, g3)).map Sum.inr
  else
    (f_J6_bitCount_0f7a4 x2).bind fun v5 =>
    (f_J6_bitCount_0f7a4 x1).bind fun v6 =>
    if v6 ≤ v5 then
      f_X12_drop_47 N x0 x1 x2 g
    else
      zvs g x0 12 <| (f_X12_canBe N x0 x2 g).bind fun r7 =>
      if r7.1 = 0 then
        f_X12_drop_47 N x0 x1 x2 r7.2
      else
        f_X12_drop_47 N x0 x2 x2 r7.2

def f_X12_drop (N : Nat) (x0 : Nat)  (g : ZS) : Option (Int32 × ZS) :=
  (zwrI g x0 12 10 (0 : Int32)).bind fun g1 =>
  (zrdI g1 x0 12 36).bind fun v2 =>
  zloop (fun s => f_X12_drop_16 N x0 s.1 s.2.1 s.2.2) N (((1 : Int32) <<< (v2 &&& 31)) - (1 : Int32), (0 : Int32), g1)

def f_X11_playCounsels_151 (N : Nat) (x0 : Nat) (x1 : Int32) (x3 : Int32) (x4 : Int32) (s0 : Int32) (g : ZS) : Option ((Int32 × Int32 × ZS) ⊕ ((Int32 × Int32 × ZS) ⊕ (Int32 × ZS))) :=
  some (.inl (s0, x4 + (1 : Int32), g))

def f_X11_playCounsels_61 (N : Nat) (x0 : Nat) (x1 : Int32) (x2 : Int32) (x3 : Int32) (x4 : Int32)  (g : ZS) : Option ((Int32 × Int32 × ZS) ⊕ ((Int32 × Int32 × ZS) ⊕ (Int32 × ZS))) :=
  if x1 < (x4 + x3) then
    (
      some (.inl (x2, x3 + (1 : Int32), g))).map Sum.inr
  else
    (zrdR g x0 11 3).bind fun v1 =>
    (zrdR g x0 11 12).bind fun v2 =>
    (zrdR g v2 10 0).bind fun v3 =>
    (zald 20 g v3 x4).bind fun v4 =>
    (zald 20 g v1 v4).bind fun v5 =>
    (zrdR g x0 11 17).bind fun v6 =>
    (zald 20 g v6 (x4 + (1 : Int32))).bind fun v7 =>
    (zrdR g x0 11 3).bind fun v8 =>
    (zrdR g x0 11 12).bind fun v9 =>
    (zrdR g v9 10 0).bind fun v10 =>
    (zald 20 g v10 ((x4 + x3) - (1 : Int32))).bind fun v11 =>
    (zald 20 g v8 v11).bind fun v12 =>
    (zrdR g x0 11 17).bind fun v13 =>
    (zald 20 g v13 x4).bind fun v14 =>
    (zrdR g x0 11 17).bind fun v15 =>
    (f_J9_max_7cf53 (v5 - v7) (v12 - v14)).bind fun v16 =>
    (zast 20 g v15 x4 v16).bind fun g17 =>
    if (v12 - v14) ≤ (v5 - v7) then
      f_X11_playCounsels_151 N x0 x1 x3 x4 (0 : Int32) g17
    else
      f_X11_playCounsels_151 N x0 x1 x3 x4 (1 : Int32) g17

def f_X11_playCounsels_187 (N : Nat)  (s0 : Int32) (g : ZS) : Option (Int32 × ZS) :=
  some (s0, g)

def f_X11_playCounsels_53 (N : Nat) (x0 : Nat) (x1 : Int32) (x2 : Int32) (x3 : Int32)  (g : ZS) : Option ((Int32 × Int32 × ZS) ⊕ (Int32 × ZS)) :=
  if x1 < x3 then
    (
      (zrdR g x0 11 1).bind fun v1 =>
      zvs g v1 9 <| (f_X9_only v1 x2.toInt64 g).bind fun g2 =>
      if x1 = 0 then
        f_X11_playCounsels_187 N (0 : Int32) g2
      else
        (zrdR g2 x0 11 17).bind fun v3 =>
        (zald 20 g2 v3 (0 : Int32)).bind fun v4 =>
        f_X11_playCounsels_187 N v4 g2).map Sum.inr
  else
    zloop (fun s => f_X11_playCounsels_61 N x0 x1 s.1 x3 s.2.1 s.2.2) N (x2, (0 : Int32), g)

def f_X11_playCounsels_20 (N : Nat) (x0 : Nat) (x1 : Int32) (x2 : Int32) (x3 : Int32)  (g : ZS) : Option ((Int32 × ZS) ⊕ (Int32 × ZS)) :=
  if x1 ≤ x3 then
    (
      zloop (fun s => f_X11_playCounsels_53 N x0 x1 s.1 s.2.1 s.2.2) N (x2, (2 : Int32), g)).map Sum.inr
  else
    (zrdR g x0 11 17).bind fun v1 =>
    (zrdR g x0 11 3).bind fun v2 =>
    (zrdR g x0 11 12).bind fun v3 =>
    (zrdR g v3 10 0).bind fun v4 =>
    (zald 20 g v4 x3).bind fun v5 =>
    (zald 20 g v2 v5).bind fun v6 =>
    (zast 20 g v1 x3 v6).bind fun g7 =>
    some (.inl (x3 + (1 : Int32), g7))

def f_X11_playCounsels_17 (N : Nat) (x0 : Nat) (x1 : Int32) (s0 : Int32) (g : ZS) : Option (Int32 × ZS) :=
  zloop (fun s => f_X11_playCounsels_20 N x0 x1 s0 s.1 s.2) N ((0 : Int32), g)

def f_X11_playCounsels (N : Nat) (x0 : Nat)  (g : ZS) : Option (Int32 × ZS) :=
  (zrdR g x0 11 12).bind fun v1 =>
  (zrdI g v1 10 3).bind fun v2 =>
  if v2 = 0 then
    f_X11_playCounsels_17 N x0 v2 (-1 : Int32) g
  else
    f_X11_playCounsels_17 N x0 v2 (0 : Int32) g

def f_X11_counsels (N : Nat) (x0 : Nat) (x1 : Int32)  (g : ZS) : Option (Int32 × ZS) :=
  zvs g x0 11 <| (f_X11_isParrot x0 x1 g).bind fun v1 =>
  if v1 = 0 then
    some ((-1 : Int32), g)
  else
    (zrdR g x0 11 12).bind fun v2 =>
    (zrdR g x0 11 6).bind fun v3 =>
    (zrdR g v3 6 0).bind fun v4 =>
    (zaald 25 g v4 x1).bind fun v5 =>
    (zrdR g x0 11 4).bind fun v6 =>
    (zrdR g x0 11 3).bind fun v7 =>
    zvs g v2 10 <| (f_X10_follow N v2 v5 v6 v7 g).bind fun g8 =>
    zvs g8 x0 11 <| (f_X11_playCounsels N x0 g8).bind fun r9 =>
    some ((100 : Int32) + r9.1, r9.2)

def f_X11_power_5 (N : Nat) (x0 : Int32) (x1 : Int32) (x2 : Int64) (x4 : Int32)  : Option ((Int64 × Int32) ⊕ Int64) :=
  if x1 ≤ x4 then
    (
      some x2).map Sum.inr
  else
    some (.inl (x2 * x0.toInt64, x4 + (1 : Int32)))

def f_X11_power (N : Nat) (x0 : Int32) (x1 : Int32)  : Option Int64 :=
  zloop (fun s => f_X11_power_5 N x0 x1 s.1 s.2) N ((1 : Int64), (0 : Int32))

def f_X11_waysOfRight_44 (N : Nat) (x0 : Int32) (x1 : Int32) (x2 : Int32) (x3 : Int64) (x5 : Int64) (x7 : Int32)  : Option ((Int64 × Int64 × Int32) ⊕ Int64) :=
  if (x7 + (1 : Int32)).toInt64 = 0 then none else
  some (.inl (x3, (x5 * ((x0 - x7).toInt64)) / ((x7 + (1 : Int32)).toInt64), x7 + (1 : Int32)))

def f_X11_waysOfRight_8 (N : Nat) (x0 : Int32) (x1 : Int32) (x2 : Int32) (x3 : Int64) (x5 : Int64) (x7 : Int32)  : Option ((Int64 × Int64 × Int32) ⊕ Int64) :=
  if x0 < x7 then
    (
      some x3).map Sum.inr
  else
    if x7 < x2 then
      f_X11_waysOfRight_44 N x0 x1 x2 x3 x5 x7
    else
      (f_X11_power N x1 x7).bind fun v1 =>
      (f_X11_power N ((10 : Int32) - x1) (x0 - x7)).bind fun v2 =>
      f_X11_waysOfRight_44 N x0 x1 x2 (x3 + ((x5 * v1) * v2)) x5 x7

def f_X11_waysOfRight (N : Nat) (x0 : Int32) (x1 : Int32) (x2 : Int32)  : Option Int64 :=
  zloop (fun s => f_X11_waysOfRight_8 N x0 x1 x2 s.1 s.2.1 s.2.2) N ((0 : Int64), (1 : Int64), (0 : Int32))

def f_X11_tellFraction_66 (N : Nat)   (g : ZS) : Option ZS :=
  some g

def f_X11_tellFraction_44 (N : Nat) (x0 : Nat) (x1 : Int64) (x3 : Int64) (x5 : Int64)  (g : ZS) : Option ZS :=
  if (lg_cmp x5 (0 : Int64)) ≤ 0 then
    f_X11_tellFraction_66 N g
  else
    (zrdR g x0 11 1).bind fun v1 =>
    if x5 = 0 then none else
    if x5 = 0 then none else
    zvs g v1 9 <| (f_X9_pair v1 (x1 / x5) (x3 / x5) g).bind fun g2 =>
    f_X11_tellFraction_66 N g2

def f_X11_tellFraction_9 (N : Nat) (x0 : Nat) (x1 : Int64) (x3 : Int64) (x5 : Int64) (x7 : Int64) (x9 : Int32)  (g : ZS) : Option ((Int64 × Int64 × Int32) ⊕ ZS) :=
  if (100 : Int32) ≤ x9 then
    (
    f_X11_tellFraction_44 N x0 x1 x3 x5 g).map Sum.inr
  else
    if (lg_cmp x7 (0 : Int64)) ≤ 0 then
      (
      f_X11_tellFraction_44 N x0 x1 x3 x5 g).map Sum.inr
    else
      if x7 = 0 then none else
      some (.inl (x7, x5 - x5 / x7 * x7, x9 + (1 : Int32)))

def f_X11_tellFraction (N : Nat) (x0 : Nat) (x1 : Int64) (x3 : Int64)  (g : ZS) : Option ZS :=
  zloop (fun s => f_X11_tellFraction_9 N x0 x1 x3 s.1 s.2.1 s.2.2 g) N (x3, x1, (0 : Int32))

def f_X11_sure_28 (N : Nat)   (g : ZS) : Option (Int32 × ZS) :=
  some ((-1 : Int32), g)

def f_X11_sure_60 (N : Nat) (x0 : Nat) (x2 : Int32) (x3 : Int32) (x4 : Int64) (x6 : Int32)  (g : ZS) : Option ((Int64 × Int32) ⊕ (Int32 × ZS)) :=
  (zrdR g x0 11 12).bind fun v1 =>
  (zrdI g v1 10 3).bind fun v2 =>
  if v2 ≤ x6 then
    (
      (zrdR g x0 11 12).bind fun v3 =>
      (zrdI g v3 10 3).bind fun v4 =>
      (f_X11_waysOfRight N v4 x2 x3).bind fun v5 =>
      zvs g x0 11 <| (f_X11_tellFraction N x0 v5 x4 g).bind fun g6 =>
      some ((0 : Int32), g6)).map Sum.inr
  else
    some (.inl (x4 * (10 : Int64), x6 + (1 : Int32)))

def f_X11_sure (N : Nat) (x0 : Nat) (x1 : Int32) (x2 : Int32) (x3 : Int32)  (g : ZS) : Option (Int32 × ZS) :=
  zvs g x0 11 <| (f_X11_isParrot x0 x1 g).bind fun v1 =>
  if v1 = 0 then
    f_X11_sure_28 N g
  else
    if x2 < 0 then
      f_X11_sure_28 N g
    else
      if (10 : Int32) < x2 then
        f_X11_sure_28 N g
      else
        if x3 < 0 then
          f_X11_sure_28 N g
        else
          if x3 ≤ (8 : Int32) then
            (zrdR g x0 11 12).bind fun v2 =>
            (zrdR g x0 11 6).bind fun v3 =>
            (zrdR g v3 6 0).bind fun v4 =>
            (zaald 25 g v4 x1).bind fun v5 =>
            (zrdR g x0 11 4).bind fun v6 =>
            (zrdR g x0 11 3).bind fun v7 =>
            zvs g v2 10 <| (f_X10_follow N v2 v5 v6 v7 g).bind fun g8 =>
            zloop (fun s => f_X11_sure_60 N x0 x2 x3 s.1 s.2 g8) N ((1 : Int64), (0 : Int32))
          else
            f_X11_sure_28 N g

theorem j_X12_spotOf_2 {X : ZX} (N : Nat) (x0 : Nat) (x1 : Int32) (x2 : Int32) (x3 : Int32)   (g : ZS) {K : ((Int32) ⊕ Int32) → Prop} (h0 : ∀ v, K (.inr v) → xK X (some (.int v)) g) (hL2 : ∀ s, K (.inl s) → zG Y_X12_spotOf X 0 0 2 [some (.ref x0), some (.int x1), some (.int x2), some (.int s)] [] g) : J Y_X12_spotOf X 0 0 2 [some (.ref x0), some (.int x1), some (.int x2), some (.int x3)] [] g (f_X12_spotOf_2 N x0 x1 x2 x3 g) K := by
  unfold f_X12_spotOf_2
  refine J_iload_n rfl rfl (show Dc Y_X12_spotOf 2 (.iload_n 3) 1 3 from ⟨by decide +kernel, rfl⟩) ?_
  refine J_iload_n rfl rfl (show Dc Y_X12_spotOf 3 (.iload_n 1) 1 4 from ⟨by decide +kernel, rfl⟩) ?_
  refine J_icmp_ge (tg := 22) (show Dc Y_X12_spotOf 4 (.if_icmp .ge 18) 3 7 from ⟨by decide +kernel, rfl⟩) (by decide) (fun h => ?_) (fun h => ?_)
  · refine J_map (f := Sum.inr) (fun _ h => h) ?_
    refine J_iconst (-1 : Int32) rfl (show Dc Y_X12_spotOf 22 (.iconst (-1)) 1 23 from ⟨by decide +kernel, rfl⟩) ?_
    exact J_reti (show Dc Y_X12_spotOf 23 (.ireturn) 1 24 from ⟨by decide +kernel, rfl⟩) rfl (h0 _) (by decide) (by decide)
  · refine J_aload_n rfl rfl (show Dc Y_X12_spotOf 7 (.aload_n 0) 1 8 from ⟨by decide +kernel, rfl⟩) ?_
    refine J_iload_n rfl rfl (show Dc Y_X12_spotOf 8 (.iload_n 3) 1 9 from ⟨by decide +kernel, rfl⟩) ?_
    refine J_iald (show Dc Y_X12_spotOf 9 (.iaload) 1 10 from ⟨by decide +kernel, rfl⟩) (fun v1 => ?_)
    refine J_iload_n rfl rfl (show Dc Y_X12_spotOf 10 (.iload_n 2) 1 11 from ⟨by decide +kernel, rfl⟩) ?_
    refine J_icmp_ne (tg := 16) (show Dc Y_X12_spotOf 11 (.if_icmp .ne 5) 3 14 from ⟨by decide +kernel, rfl⟩) (by decide) (fun h => ?_) (fun h => ?_)
    · refine J_iinc (1 : Int32) [some (.ref x0), some (.int x1), some (.int x2), some (.int (x3 + (1 : Int32)))] (show Dc Y_X12_spotOf 16 (.iinc 3 1) 3 19 from ⟨by decide +kernel, rfl⟩) rfl rfl (by decide) rfl rfl ?_
      refine J_goto (tg := 2) (show Dc Y_X12_spotOf 19 (.goto (-17)) 3 22 from ⟨by decide +kernel, rfl⟩) (by decide) ?_
      exact J_leaf (fun h => hL2 (x3 + (1 : Int32)) h)
    · refine J_map (f := Sum.inr) (fun _ h => h) ?_
      refine J_iload_n rfl rfl (show Dc Y_X12_spotOf 14 (.iload_n 3) 1 15 from ⟨by decide +kernel, rfl⟩) ?_
      exact J_reti (show Dc Y_X12_spotOf 15 (.ireturn) 1 16 from ⟨by decide +kernel, rfl⟩) rfl (h0 _) (by decide) (by decide)

theorem j_X12_spotOf {X : ZX} (N : Nat) (x0 : Nat) (x1 : Int32) (x2 : Int32)   (g : ZS) {K : Int32 → Prop} (h0 : ∀ v, K v → xK X (some (.int v)) g) : J Y_X12_spotOf X 0 0 0 [some (.ref x0), some (.int x1), some (.int x2), none] [] g (f_X12_spotOf N x0 x1 x2 g) K := by
  unfold f_X12_spotOf
  refine J_iconst (0 : Int32) rfl (show Dc Y_X12_spotOf 0 (.iconst 0) 1 1 from ⟨by decide +kernel, rfl⟩) ?_
  refine J_istore_n [some (.ref x0), some (.int x1), some (.int x2), some (.int (0 : Int32))] (show Dc Y_X12_spotOf 1 (.istore_n 3) 1 2 from ⟨by decide +kernel, rfl⟩) rfl (by decide) rfl rfl ?_
  exact J_loop (X := X) (K := K) (uc := fun _ => 0) (us := fun _ => 0) (lf := fun s => [some (.ref x0), some (.int x1), some (.int x2), some (.int s)]) (gf := fun s => g) (fun s => j_X12_spotOf_2 (K := zKl Y_X12_spotOf X 2 (fun _ => 0) (fun _ => 0) (fun s => [some (.ref x0), some (.int x1), some (.int x2), some (.int s)]) (fun s => g) K) N x0 x1 x2 s g h0 (fun s h => h)) N (0 : Int32)

theorem c_X12_spotOf {l : Launch} {D : ZD} {B0 : Nat} (N : Nat) (x0 : Nat) (x1 : Int32) (x2 : Int32) (g : ZS) : ∀ r, f_X12_spotOf N x0 x1 x2 g = some r → zCt l D B0 yX12_spotOf Y_X12_spotOf [.ref x0, .int x1, .int x2] g (some (.int r)) g :=
  zCt_ofF (vo := fun r => some (.int r)) (so := fun _ => g) (by decide +kernel) rfl (fun h => by cases h) rfl (Nat.le_of_ble_eq_true rfl) (fun X => j_X12_spotOf N x0 x1 x2 g (fun _ h => h))

theorem j_X12_isLess_42 {X : ZX} (N : Nat)  (s0 : Int32)  (g : ZS) {K : Int32 → Prop} (h0 : ∀ v, K v → xK X (some (.int v)) g) : J Y_X12_isLess X 0 0 42 [none, none, none] [.int s0] g (f_X12_isLess_42 N s0 g) K := by
  unfold f_X12_isLess_42
  exact J_retZ (show Dc Y_X12_isLess 42 (.ireturn) 1 43 from ⟨by decide +kernel, rfl⟩) rfl (h0 _) (by decide) (by decide)

theorem j_X12_isLess_2 {X : ZX} (N : Nat) (x0 : Nat) (x1 : Int32) (x2 : Int32)   (g : ZS) {K : ((Int32) ⊕ Int32) → Prop} (h0 : ∀ v, K (.inr v) → xK X (some (.int v)) g) (hL2 : ∀ s, K (.inl s) → zG Y_X12_isLess X 0 0 2 [some (.ref x0), some (.int x1), some (.int s)] [] g) : J Y_X12_isLess X 0 0 2 [some (.ref x0), some (.int x1), some (.int x2)] [] g (f_X12_isLess_2 N x0 x1 x2 g) K := by
  unfold f_X12_isLess_2
  refine J_iload_n rfl rfl (show Dc Y_X12_isLess 2 (.iload_n 2) 1 3 from ⟨by decide +kernel, rfl⟩) ?_
  refine J_iload_n rfl rfl (show Dc Y_X12_isLess 3 (.iload_n 1) 1 4 from ⟨by decide +kernel, rfl⟩) ?_
  refine J_icmp_ge (tg := 49) (show Dc Y_X12_isLess 4 (.if_icmp .ge 45) 3 7 from ⟨by decide +kernel, rfl⟩) (by decide) (fun h => ?_) (fun h => ?_)
  · refine J_map (f := Sum.inr) (fun _ h => h) ?_
    refine J_iconst (0 : Int32) rfl (show Dc Y_X12_isLess 49 (.iconst 0) 1 50 from ⟨by decide +kernel, rfl⟩) ?_
    exact J_retz rfl (show Dc Y_X12_isLess 50 (.ireturn) 1 51 from ⟨by decide +kernel, rfl⟩) rfl (h0 _) (by decide) (by decide)
  · refine J_aload_n rfl rfl (show Dc Y_X12_isLess 7 (.aload_n 0) 1 8 from ⟨by decide +kernel, rfl⟩) ?_
    refine J_getR (show Dc Y_X12_isLess 8 (.getfield 72) 3 11 from ⟨by decide +kernel, rfl⟩) w_f_RX12_72 rfl (fun v1 => ?_)
    refine J_iload_n rfl rfl (show Dc Y_X12_isLess 11 (.iload_n 2) 1 12 from ⟨by decide +kernel, rfl⟩) ?_
    refine J_iald (show Dc Y_X12_isLess 12 (.iaload) 1 13 from ⟨by decide +kernel, rfl⟩) (fun v2 => ?_)
    refine J_aload_n rfl rfl (show Dc Y_X12_isLess 13 (.aload_n 0) 1 14 from ⟨by decide +kernel, rfl⟩) ?_
    refine J_getR (show Dc Y_X12_isLess 14 (.getfield 75) 3 17 from ⟨by decide +kernel, rfl⟩) w_f_RX12_75 rfl (fun v3 => ?_)
    refine J_iload_n rfl rfl (show Dc Y_X12_isLess 17 (.iload_n 2) 1 18 from ⟨by decide +kernel, rfl⟩) ?_
    refine J_iald (show Dc Y_X12_isLess 18 (.iaload) 1 19 from ⟨by decide +kernel, rfl⟩) (fun v4 => ?_)
    refine J_icmp_eq (tg := 43) (show Dc Y_X12_isLess 19 (.if_icmp .eq 24) 3 22 from ⟨by decide +kernel, rfl⟩) (by decide) (fun h => ?_) (fun h => ?_)
    · refine J_iinc (1 : Int32) [some (.ref x0), some (.int x1), some (.int (x2 + (1 : Int32)))] (show Dc Y_X12_isLess 43 (.iinc 2 1) 3 46 from ⟨by decide +kernel, rfl⟩) rfl rfl (by decide) rfl rfl ?_
      refine J_goto (tg := 2) (show Dc Y_X12_isLess 46 (.goto (-44)) 3 49 from ⟨by decide +kernel, rfl⟩) (by decide) ?_
      exact J_leaf (fun h => hL2 (x2 + (1 : Int32)) h)
    · refine J_map (f := Sum.inr) (fun _ h => h) ?_
      refine J_aload_n rfl rfl (show Dc Y_X12_isLess 22 (.aload_n 0) 1 23 from ⟨by decide +kernel, rfl⟩) ?_
      refine J_getR (show Dc Y_X12_isLess 23 (.getfield 72) 3 26 from ⟨by decide +kernel, rfl⟩) w_f_RX12_72 rfl (fun v5 => ?_)
      refine J_iload_n rfl rfl (show Dc Y_X12_isLess 26 (.iload_n 2) 1 27 from ⟨by decide +kernel, rfl⟩) ?_
      refine J_iald (show Dc Y_X12_isLess 27 (.iaload) 1 28 from ⟨by decide +kernel, rfl⟩) (fun v6 => ?_)
      refine J_aload_n rfl rfl (show Dc Y_X12_isLess 28 (.aload_n 0) 1 29 from ⟨by decide +kernel, rfl⟩) ?_
      refine J_getR (show Dc Y_X12_isLess 29 (.getfield 75) 3 32 from ⟨by decide +kernel, rfl⟩) w_f_RX12_75 rfl (fun v7 => ?_)
      refine J_iload_n rfl rfl (show Dc Y_X12_isLess 32 (.iload_n 2) 1 33 from ⟨by decide +kernel, rfl⟩) ?_
      refine J_iald (show Dc Y_X12_isLess 33 (.iaload) 1 34 from ⟨by decide +kernel, rfl⟩) (fun v8 => ?_)
      refine J_icmp_ge (tg := 41) (show Dc Y_X12_isLess 34 (.if_icmp .ge 7) 3 37 from ⟨by decide +kernel, rfl⟩) (by decide) (fun h => ?_) (fun h => ?_)
      · refine J_iconst (0 : Int32) rfl (show Dc Y_X12_isLess 41 (.iconst 0) 1 42 from ⟨by decide +kernel, rfl⟩) ?_
        refine J_mask [false, false, false] ?_
        exact j_X12_isLess_42 (K := fun o => K (.inr o)) N (0 : Int32) g h0
      · refine J_iconst (1 : Int32) rfl (show Dc Y_X12_isLess 37 (.iconst 1) 1 38 from ⟨by decide +kernel, rfl⟩) ?_
        refine J_goto (tg := 42) (show Dc Y_X12_isLess 38 (.goto 4) 3 41 from ⟨by decide +kernel, rfl⟩) (by decide) ?_
        refine J_mask [false, false, false] ?_
        exact j_X12_isLess_42 (K := fun o => K (.inr o)) N (1 : Int32) g h0

theorem j_X12_isLess {X : ZX} (N : Nat) (x0 : Nat) (x1 : Int32)   (g : ZS) {K : Int32 → Prop} (h0 : ∀ v, K v → xK X (some (.int v)) g) : J Y_X12_isLess X 0 0 0 [some (.ref x0), some (.int x1), none] [] g (f_X12_isLess N x0 x1 g) K := by
  unfold f_X12_isLess
  refine J_iconst (0 : Int32) rfl (show Dc Y_X12_isLess 0 (.iconst 0) 1 1 from ⟨by decide +kernel, rfl⟩) ?_
  refine J_istore_n [some (.ref x0), some (.int x1), some (.int (0 : Int32))] (show Dc Y_X12_isLess 1 (.istore_n 2) 1 2 from ⟨by decide +kernel, rfl⟩) rfl (by decide) rfl rfl ?_
  exact J_loop (X := X) (K := K) (uc := fun _ => 0) (us := fun _ => 0) (lf := fun s => [some (.ref x0), some (.int x1), some (.int s)]) (gf := fun s => g) (fun s => j_X12_isLess_2 (K := zKl Y_X12_isLess X 2 (fun _ => 0) (fun _ => 0) (fun s => [some (.ref x0), some (.int x1), some (.int s)]) (fun s => g) K) N x0 x1 s g h0 (fun s h => h)) N (0 : Int32)

theorem c_X12_isLess {l : Launch} {D : ZD} {B0 : Nat} (N : Nat) (x0 : Nat) (x1 : Int32) (g : ZS) : ∀ r, f_X12_isLess N x0 x1 g = some r → zCt l D B0 yX12_isLess Y_X12_isLess [.ref x0, .int x1] g (some (.int r)) g :=
  zCt_ofF (vo := fun r => some (.int r)) (so := fun _ => g) (by decide +kernel) rfl (fun h => by cases h) rfl (Nat.le_of_ble_eq_true rfl) (fun X => j_X12_isLess N x0 x1 g (fun _ h => h))

theorem j_X10_isAhead_18 {X : ZX} (N : Nat)  (s0 : Int32)  (g : ZS) {K : Int32 → Prop} (h0 : ∀ v, K v → xK X (some (.int v)) g) : J Y_X10_isAhead X 0 0 18 [none, none, none] [.int s0] g (f_X10_isAhead_18 N s0 g) K := by
  unfold f_X10_isAhead_18
  exact J_retZ (show Dc Y_X10_isAhead 18 (.ireturn) 1 19 from ⟨by decide +kernel, rfl⟩) rfl (h0 _) (by decide) (by decide)

theorem j_X10_isAhead {X : ZX} (N : Nat) (x0 : Nat) (x1 : Int32) (x2 : Int32)   (g : ZS) {K : Int32 → Prop} (h0 : ∀ v, K v → xK X (some (.int v)) g) : J Y_X10_isAhead X 0 0 0 [some (.ref x0), some (.int x1), some (.int x2)] [] g (f_X10_isAhead N x0 x1 x2 g) K := by
  unfold f_X10_isAhead
  refine J_aload_n rfl rfl (show Dc Y_X10_isAhead 0 (.aload_n 0) 1 1 from ⟨by decide +kernel, rfl⟩) ?_
  refine J_iload_n rfl rfl (show Dc Y_X10_isAhead 1 (.iload_n 1) 1 2 from ⟨by decide +kernel, rfl⟩) ?_
  refine J_callVi (fun r => r) (fun _ => g) (show Dc Y_X10_isAhead 2 (.invokevirtual 51) 3 5 from ⟨by decide +kernel, rfl⟩) w_m_RX10_51 w_in_X10_placeOf rfl w_se_X10_placeOf w_cw_X10_placeOf (c_X10_placeOf N x0 x1 g) rfl rfl (by decide) (Nat.le_of_ble_eq_true rfl) (by decide) (by decide) (fun v1 => ?_)
  refine J_aload_n rfl rfl (show Dc Y_X10_isAhead 5 (.aload_n 0) 1 6 from ⟨by decide +kernel, rfl⟩) ?_
  refine J_iload_n rfl rfl (show Dc Y_X10_isAhead 6 (.iload_n 2) 1 7 from ⟨by decide +kernel, rfl⟩) ?_
  refine J_callVi (fun r => r) (fun _ => g) (show Dc Y_X10_isAhead 7 (.invokevirtual 51) 3 10 from ⟨by decide +kernel, rfl⟩) w_m_RX10_51 w_in_X10_placeOf rfl w_se_X10_placeOf w_cw_X10_placeOf (c_X10_placeOf N x0 x2 g) rfl rfl (by decide) (Nat.le_of_ble_eq_true rfl) (by decide) (by decide) (fun v2 => ?_)
  refine J_icmp_ge (tg := 17) (show Dc Y_X10_isAhead 10 (.if_icmp .ge 7) 3 13 from ⟨by decide +kernel, rfl⟩) (by decide) (fun h => ?_) (fun h => ?_)
  · refine J_iconst (0 : Int32) rfl (show Dc Y_X10_isAhead 17 (.iconst 0) 1 18 from ⟨by decide +kernel, rfl⟩) ?_
    refine J_mask [false, false, false] ?_
    exact j_X10_isAhead_18 N (0 : Int32) g h0
  · refine J_iconst (1 : Int32) rfl (show Dc Y_X10_isAhead 13 (.iconst 1) 1 14 from ⟨by decide +kernel, rfl⟩) ?_
    refine J_goto (tg := 18) (show Dc Y_X10_isAhead 14 (.goto 4) 3 17 from ⟨by decide +kernel, rfl⟩) (by decide) ?_
    refine J_mask [false, false, false] ?_
    exact j_X10_isAhead_18 N (1 : Int32) g h0

theorem c_X10_isAhead {l : Launch} {D : ZD} {B0 : Nat} (N : Nat) (x0 : Nat) (x1 : Int32) (x2 : Int32) (g : ZS) : ∀ r, f_X10_isAhead N x0 x1 x2 g = some r → zCt l D B0 yX10_isAhead Y_X10_isAhead [.ref x0, .int x1, .int x2] g (some (.int r)) g :=
  zCt_ofF (vo := fun r => some (.int r)) (so := fun _ => g) (by decide +kernel) rfl (fun h => by cases h) rfl (Nat.le_of_ble_eq_true rfl) (fun X => j_X10_isAhead N x0 x1 x2 g (fun _ h => h))

theorem j_X11_unlike_117 {X : ZX} (N : Nat) (x0 : Nat) (x3 : Int32) (x4 : Int32) (x5 : Int32) (x6 : Int32)   (g : ZS) {K : ((Int32 × Int32) ⊕ ((Int32 × Int32) ⊕ (Int32 × ZS))) → Prop} (h0 : ∀ v g, K (.inr (.inr (v, g))) → xK X (some (.int v)) g) (hL43 : ∀ s, K (.inr (.inl s)) → zG Y_X11_unlike X 0 0 43 [some (.ref x0), none, none, some (.int x3), some (.int s.1), some (.int s.2), none, none] [] g) (hL56 : ∀ s, K (.inl s) → zG Y_X11_unlike X 0 0 56 [some (.ref x0), none, none, some (.int x3), some (.int s.1), some (.int x5), some (.int s.2), none] [] g) : J Y_X11_unlike X 0 0 117 [some (.ref x0), none, none, some (.int x3), some (.int x4), some (.int x5), some (.int x6), none] [] g (f_X11_unlike_117 N x0 x3 x4 x5 x6 g) K := by
  unfold f_X11_unlike_117
  refine J_iinc (1 : Int32) [some (.ref x0), none, none, some (.int x3), some (.int x4), some (.int x5), some (.int (x6 + (1 : Int32))), none] (show Dc Y_X11_unlike 117 (.iinc 6 1) 3 120 from ⟨by decide +kernel, rfl⟩) rfl rfl (by decide) rfl rfl ?_
  refine J_goto (tg := 56) (show Dc Y_X11_unlike 120 (.goto (-64)) 3 123 from ⟨by decide +kernel, rfl⟩) (by decide) ?_
  exact J_leaf (fun h => hL56 (x4, x6 + (1 : Int32)) h)

theorem j_X11_unlike_82 {X : ZX} (N : Nat) (x0 : Nat) (x3 : Int32) (x4 : Int32) (x5 : Int32) (x6 : Int32) (s0 : Int32)  (g : ZS) {K : ((Int32 × Int32) ⊕ ((Int32 × Int32) ⊕ (Int32 × ZS))) → Prop} (h0 : ∀ v g, K (.inr (.inr (v, g))) → xK X (some (.int v)) g) (hL43 : ∀ s, K (.inr (.inl s)) → zG Y_X11_unlike X 0 0 43 [some (.ref x0), none, none, some (.int x3), some (.int s.1), some (.int s.2), none, none] [] g) (hL56 : ∀ s, K (.inl s) → zG Y_X11_unlike X 0 0 56 [some (.ref x0), none, none, some (.int x3), some (.int s.1), some (.int x5), some (.int s.2), none] [] g) : J Y_X11_unlike X 0 0 82 [some (.ref x0), none, none, some (.int x3), some (.int x4), some (.int x5), some (.int x6), none] [.int s0] g (f_X11_unlike_82 N x0 x3 x4 x5 x6 s0 g) K := by
  unfold f_X11_unlike_82
  refine J_istore [some (.ref x0), none, none, some (.int x3), some (.int x4), some (.int x5), some (.int x6), some (.int s0)] (show Dc Y_X11_unlike 82 (.istore 7) 2 84 from ⟨by decide +kernel, rfl⟩) (by decide) rfl rfl ?_
  refine J_iload rfl (show Dc Y_X11_unlike 84 (.iload 7) 2 86 from ⟨by decide +kernel, rfl⟩) ?_
  refine J_if_eq (tg := 117) (show Dc Y_X11_unlike 86 (.ifCond .eq 31) 3 89 from ⟨by decide +kernel, rfl⟩) (by decide) (fun h => ?_) (fun h => ?_)
  · refine J_mask [true, false, false, true, true, true, true, false] ?_
    exact j_X11_unlike_117 N x0 x3 x4 x5 x6 g h0 hL43 hL56
  · refine J_aload_n rfl rfl (show Dc Y_X11_unlike 89 (.aload_n 0) 1 90 from ⟨by decide +kernel, rfl⟩) ?_
    refine J_getR (show Dc Y_X11_unlike 90 (.getfield 79) 3 93 from ⟨by decide +kernel, rfl⟩) w_f_RX11_79 rfl (fun v1 => ?_)
    refine J_iload rfl (show Dc Y_X11_unlike 93 (.iload 5) 2 95 from ⟨by decide +kernel, rfl⟩) ?_
    refine J_iload rfl (show Dc Y_X11_unlike 95 (.iload 6) 2 97 from ⟨by decide +kernel, rfl⟩) ?_
    refine J_callVi (fun r => r) (fun _ => g) (show Dc Y_X11_unlike 97 (.invokevirtual 387) 3 100 from ⟨by decide +kernel, rfl⟩) w_m_RX11_387 w_in_X10_isAhead rfl w_se_X10_isAhead w_cw_X10_isAhead (c_X10_isAhead N v1 x5 x6 g) rfl rfl (by decide) (Nat.le_of_ble_eq_true rfl) (by decide) (by decide) (fun v2 => ?_)
    refine J_aload_n rfl rfl (show Dc Y_X11_unlike 100 (.aload_n 0) 1 101 from ⟨by decide +kernel, rfl⟩) ?_
    refine J_getR (show Dc Y_X11_unlike 101 (.getfield 83) 3 104 from ⟨by decide +kernel, rfl⟩) w_f_RX11_83 rfl (fun v3 => ?_)
    refine J_iload rfl (show Dc Y_X11_unlike 104 (.iload 5) 2 106 from ⟨by decide +kernel, rfl⟩) ?_
    refine J_iload rfl (show Dc Y_X11_unlike 106 (.iload 6) 2 108 from ⟨by decide +kernel, rfl⟩) ?_
    refine J_callVi (fun r => r) (fun _ => g) (show Dc Y_X11_unlike 108 (.invokevirtual 387) 3 111 from ⟨by decide +kernel, rfl⟩) w_m_RX11_387 w_in_X10_isAhead rfl w_se_X10_isAhead w_cw_X10_isAhead (c_X10_isAhead N v3 x5 x6 g) rfl rfl (by decide) (Nat.le_of_ble_eq_true rfl) (by decide) (by decide) (fun v4 => ?_)
    refine J_icmp_eq (tg := 117) (show Dc Y_X11_unlike 111 (.if_icmp .eq 6) 3 114 from ⟨by decide +kernel, rfl⟩) (by decide) (fun h => ?_) (fun h => ?_)
    · refine J_mask [true, false, false, true, true, true, true, false] ?_
      exact j_X11_unlike_117 N x0 x3 x4 x5 x6 g h0 hL43 hL56
    · refine J_iinc (1 : Int32) [some (.ref x0), none, none, some (.int x3), some (.int (x4 + (1 : Int32))), some (.int x5), some (.int x6), some (.int s0)] (show Dc Y_X11_unlike 114 (.iinc 4 1) 3 117 from ⟨by decide +kernel, rfl⟩) rfl rfl (by decide) rfl rfl ?_
      refine J_mask [true, false, false, true, true, true, true, false] ?_
      exact j_X11_unlike_117 N x0 x3 (x4 + (1 : Int32)) x5 x6 g h0 hL43 hL56

theorem j_X11_unlike_56 {X : ZX} (N : Nat) (x0 : Nat) (x3 : Int32) (x4 : Int32) (x5 : Int32) (x6 : Int32)   (g : ZS) {K : ((Int32 × Int32) ⊕ ((Int32 × Int32) ⊕ (Int32 × ZS))) → Prop} (h0 : ∀ v g, K (.inr (.inr (v, g))) → xK X (some (.int v)) g) (hL43 : ∀ s, K (.inr (.inl s)) → zG Y_X11_unlike X 0 0 43 [some (.ref x0), none, none, some (.int x3), some (.int s.1), some (.int s.2), none, none] [] g) (hL56 : ∀ s, K (.inl s) → zG Y_X11_unlike X 0 0 56 [some (.ref x0), none, none, some (.int x3), some (.int s.1), some (.int x5), some (.int s.2), none] [] g) : J Y_X11_unlike X 0 0 56 [some (.ref x0), none, none, some (.int x3), some (.int x4), some (.int x5), some (.int x6), none] [] g (f_X11_unlike_56 N x0 x3 x4 x5 x6 g) K := by
  unfold f_X11_unlike_56
  refine J_iload rfl (show Dc Y_X11_unlike 56 (.iload 6) 2 58 from ⟨by decide +kernel, rfl⟩) ?_
  refine J_bipush (8 : Int32) rfl (show Dc Y_X11_unlike 58 (.bipush 8) 2 60 from ⟨by decide +kernel, rfl⟩) ?_
  refine J_icmp_ge (tg := 123) (show Dc Y_X11_unlike 60 (.if_icmp .ge 63) 3 63 from ⟨by decide +kernel, rfl⟩) (by decide) (fun h => ?_) (fun h => ?_)
  · refine J_map (f := Sum.inr) (fun _ h => h) ?_
    refine J_iinc (1 : Int32) [some (.ref x0), none, none, some (.int x3), some (.int x4), some (.int (x5 + (1 : Int32))), some (.int x6), none] (show Dc Y_X11_unlike 123 (.iinc 5 1) 3 126 from ⟨by decide +kernel, rfl⟩) rfl rfl (by decide) rfl rfl ?_
    refine J_goto (tg := 43) (show Dc Y_X11_unlike 126 (.goto (-83)) 3 129 from ⟨by decide +kernel, rfl⟩) (by decide) ?_
    refine J_mask [true, false, false, true, true, true, false, false] ?_
    exact J_leaf (fun h => hL43 (x4, x5 + (1 : Int32)) h)
  · refine J_iload_n rfl rfl (show Dc Y_X11_unlike 63 (.iload_n 3) 1 64 from ⟨by decide +kernel, rfl⟩) ?_
    refine J_iload rfl (show Dc Y_X11_unlike 64 (.iload 5) 2 66 from ⟨by decide +kernel, rfl⟩) ?_
    refine J_ishr (show Dc Y_X11_unlike 66 (.ishr) 1 67 from ⟨by decide +kernel, rfl⟩) ?_
    refine J_iload_n rfl rfl (show Dc Y_X11_unlike 67 (.iload_n 3) 1 68 from ⟨by decide +kernel, rfl⟩) ?_
    refine J_iload rfl (show Dc Y_X11_unlike 68 (.iload 6) 2 70 from ⟨by decide +kernel, rfl⟩) ?_
    refine J_ishr (show Dc Y_X11_unlike 70 (.ishr) 1 71 from ⟨by decide +kernel, rfl⟩) ?_
    refine J_iand (show Dc Y_X11_unlike 71 (.iand) 1 72 from ⟨by decide +kernel, rfl⟩) ?_
    refine J_iconst (1 : Int32) rfl (show Dc Y_X11_unlike 72 (.iconst 1) 1 73 from ⟨by decide +kernel, rfl⟩) ?_
    refine J_iand (show Dc Y_X11_unlike 73 (.iand) 1 74 from ⟨by decide +kernel, rfl⟩) ?_
    refine J_if_eq (tg := 81) (show Dc Y_X11_unlike 74 (.ifCond .eq 7) 3 77 from ⟨by decide +kernel, rfl⟩) (by decide) (fun h => ?_) (fun h => ?_)
    · refine J_iconst (0 : Int32) rfl (show Dc Y_X11_unlike 81 (.iconst 0) 1 82 from ⟨by decide +kernel, rfl⟩) ?_
      exact j_X11_unlike_82 N x0 x3 x4 x5 x6 (0 : Int32) g h0 hL43 hL56
    · refine J_iconst (1 : Int32) rfl (show Dc Y_X11_unlike 77 (.iconst 1) 1 78 from ⟨by decide +kernel, rfl⟩) ?_
      refine J_goto (tg := 82) (show Dc Y_X11_unlike 78 (.goto 4) 3 81 from ⟨by decide +kernel, rfl⟩) (by decide) ?_
      exact j_X11_unlike_82 N x0 x3 x4 x5 x6 (1 : Int32) g h0 hL43 hL56

theorem j_X11_unlike_43 {X : ZX} (N : Nat) (x0 : Nat) (x3 : Int32) (x4 : Int32) (x5 : Int32)   (g : ZS) {K : ((Int32 × Int32) ⊕ (Int32 × ZS)) → Prop} (h0 : ∀ v g, K (.inr (v, g)) → xK X (some (.int v)) g) (hL43 : ∀ s, K (.inl s) → zG Y_X11_unlike X 0 0 43 [some (.ref x0), none, none, some (.int x3), some (.int s.1), some (.int s.2), none, none] [] g) : J Y_X11_unlike X 0 0 43 [some (.ref x0), none, none, some (.int x3), some (.int x4), some (.int x5), none, none] [] g (f_X11_unlike_43 N x0 x3 x4 x5 g) K := by
  unfold f_X11_unlike_43
  refine J_iload rfl (show Dc Y_X11_unlike 43 (.iload 5) 2 45 from ⟨by decide +kernel, rfl⟩) ?_
  refine J_bipush (8 : Int32) rfl (show Dc Y_X11_unlike 45 (.bipush 8) 2 47 from ⟨by decide +kernel, rfl⟩) ?_
  refine J_icmp_ge (tg := 129) (show Dc Y_X11_unlike 47 (.if_icmp .ge 82) 3 50 from ⟨by decide +kernel, rfl⟩) (by decide) (fun h => ?_) (fun h => ?_)
  · refine J_map (f := Sum.inr) (fun _ h => h) ?_
    refine J_aload_n rfl rfl (show Dc Y_X11_unlike 129 (.aload_n 0) 1 130 from ⟨by decide +kernel, rfl⟩) ?_
    refine J_getR (show Dc Y_X11_unlike 130 (.getfield 19) 3 133 from ⟨by decide +kernel, rfl⟩) w_f_RX11_19 rfl (fun v1 => ?_)
    refine J_iload_n rfl rfl (show Dc Y_X11_unlike 133 (.iload_n 3) 1 134 from ⟨by decide +kernel, rfl⟩) ?_
    refine J_callSi (fun r => r) (fun _ => g) (show Dc Y_X11_unlike 134 (.invokestatic 255) 3 137 from ⟨by decide +kernel, rfl⟩) w_m_RX11_255 w_st_J6_bitCount_0f7a4 w_cw_J6_bitCount_0f7a4 (c_J6_bitCount_0f7a4 x3 g) rfl rfl (by decide) (Nat.le_of_ble_eq_true rfl) (by decide) (by decide) (fun v2 => ?_)
    refine J_i2l (show Dc Y_X11_unlike 137 (.i2l) 1 138 from ⟨by decide +kernel, rfl⟩) ?_
    refine J_callVv (fun r => r) (show Dc Y_X11_unlike 138 (.invokevirtual 339) 3 141 from ⟨by decide +kernel, rfl⟩) w_m_RX11_339 w_in_X9_only rfl w_se_X9_only w_cw_X9_only (c_X9_only v1 v2.toInt64 g) rfl rfl (by decide) (Nat.le_of_ble_eq_true rfl) (by decide) (by decide) (fun g3 => ?_)
    refine J_iload rfl (show Dc Y_X11_unlike 141 (.iload 4) 2 143 from ⟨by decide +kernel, rfl⟩) ?_
    exact J_reti (show Dc Y_X11_unlike 143 (.ireturn) 1 144 from ⟨by decide +kernel, rfl⟩) rfl (h0 _ _) (by decide) (by decide)
  · refine J_iload rfl (show Dc Y_X11_unlike 50 (.iload 5) 2 52 from ⟨by decide +kernel, rfl⟩) ?_
    refine J_iconst (1 : Int32) rfl (show Dc Y_X11_unlike 52 (.iconst 1) 1 53 from ⟨by decide +kernel, rfl⟩) ?_
    refine J_iadd (show Dc Y_X11_unlike 53 (.iadd) 1 54 from ⟨by decide +kernel, rfl⟩) ?_
    refine J_istore [some (.ref x0), none, none, some (.int x3), some (.int x4), some (.int x5), some (.int (x5 + (1 : Int32))), none] (show Dc Y_X11_unlike 54 (.istore 6) 2 56 from ⟨by decide +kernel, rfl⟩) (by decide) rfl rfl ?_
    exact J_loop (X := X) (K := K) (uc := fun _ => 0) (us := fun _ => 0) (lf := fun s => [some (.ref x0), none, none, some (.int x3), some (.int s.1), some (.int x5), some (.int s.2), none]) (gf := fun s => g) (fun s => j_X11_unlike_56 (K := zKl Y_X11_unlike X 56 (fun _ => 0) (fun _ => 0) (fun s => [some (.ref x0), none, none, some (.int x3), some (.int s.1), some (.int x5), some (.int s.2), none]) (fun s => g) K) N x0 x3 s.1 x5 s.2 g h0 hL43 (fun s h => h)) N (x4, x5 + (1 : Int32))

theorem j_X11_unlike {X : ZX} (N : Nat) (x0 : Nat) (x1 : Int32) (x2 : Int32)   (g : ZS) {K : (Int32 × ZS) → Prop} (h0 : ∀ v g, K (v, g) → xK X (some (.int v)) g) : J Y_X11_unlike X 0 0 0 [some (.ref x0), some (.int x1), some (.int x2), none, none, none, none, none] [] g (f_X11_unlike N x0 x1 x2 g) K := by
  unfold f_X11_unlike
  refine J_aload_n rfl rfl (show Dc Y_X11_unlike 0 (.aload_n 0) 1 1 from ⟨by decide +kernel, rfl⟩) ?_
  refine J_iload_n rfl rfl (show Dc Y_X11_unlike 1 (.iload_n 1) 1 2 from ⟨by decide +kernel, rfl⟩) ?_
  refine J_iload_n rfl rfl (show Dc Y_X11_unlike 2 (.iload_n 2) 1 3 from ⟨by decide +kernel, rfl⟩) ?_
  refine J_callVi (fun r => r) (fun _ => g) (show Dc Y_X11_unlike 3 (.invokevirtual 368) 3 6 from ⟨by decide +kernel, rfl⟩) w_m_RX11_368 w_in_X11_isPair rfl w_se_X11_isPair w_cw_X11_isPair (c_X11_isPair x0 x1 x2 g) rfl rfl (by decide) (Nat.le_of_ble_eq_true rfl) (by decide) (by decide) (fun v1 => ?_)
  refine J_if_ne (tg := 11) (show Dc Y_X11_unlike 6 (.ifCond .ne 5) 3 9 from ⟨by decide +kernel, rfl⟩) (by decide) (fun h => ?_) (fun h => ?_)
  · refine J_aload_n rfl rfl (show Dc Y_X11_unlike 11 (.aload_n 0) 1 12 from ⟨by decide +kernel, rfl⟩) ?_
    refine J_iload_n rfl rfl (show Dc Y_X11_unlike 12 (.iload_n 1) 1 13 from ⟨by decide +kernel, rfl⟩) ?_
    refine J_iload_n rfl rfl (show Dc Y_X11_unlike 13 (.iload_n 2) 1 14 from ⟨by decide +kernel, rfl⟩) ?_
    refine J_callVv (fun r => r) (show Dc Y_X11_unlike 14 (.invokevirtual 372) 3 17 from ⟨by decide +kernel, rfl⟩) w_m_RX11_372 w_in_X11_followBoth rfl w_se_X11_followBoth w_cw_X11_followBoth (c_X11_followBoth N x0 x1 x2 g) rfl rfl (by decide) (Nat.le_of_ble_eq_true rfl) (by decide) (by decide) (fun g2 => ?_)
    refine J_aload_n rfl rfl (show Dc Y_X11_unlike 17 (.aload_n 0) 1 18 from ⟨by decide +kernel, rfl⟩) ?_
    refine J_getR (show Dc Y_X11_unlike 18 (.getfield 79) 3 21 from ⟨by decide +kernel, rfl⟩) w_f_RX11_79 rfl (fun v3 => ?_)
    refine J_bipush (8 : Int32) rfl (show Dc Y_X11_unlike 21 (.bipush 8) 2 23 from ⟨by decide +kernel, rfl⟩) ?_
    refine J_callVi (fun r => r) (fun _ => g2) (show Dc Y_X11_unlike 23 (.invokevirtual 342) 3 26 from ⟨by decide +kernel, rfl⟩) w_m_RX11_342 w_in_X10_bits rfl w_se_X10_bits w_cw_X10_bits (c_X10_bits N v3 (8 : Int32) g2) rfl rfl (by decide) (Nat.le_of_ble_eq_true rfl) (by decide) (by decide) (fun v4 => ?_)
    refine J_aload_n rfl rfl (show Dc Y_X11_unlike 26 (.aload_n 0) 1 27 from ⟨by decide +kernel, rfl⟩) ?_
    refine J_getR (show Dc Y_X11_unlike 27 (.getfield 83) 3 30 from ⟨by decide +kernel, rfl⟩) w_f_RX11_83 rfl (fun v5 => ?_)
    refine J_bipush (8 : Int32) rfl (show Dc Y_X11_unlike 30 (.bipush 8) 2 32 from ⟨by decide +kernel, rfl⟩) ?_
    refine J_callVi (fun r => r) (fun _ => g2) (show Dc Y_X11_unlike 32 (.invokevirtual 342) 3 35 from ⟨by decide +kernel, rfl⟩) w_m_RX11_342 w_in_X10_bits rfl w_se_X10_bits w_cw_X10_bits (c_X10_bits N v5 (8 : Int32) g2) rfl rfl (by decide) (Nat.le_of_ble_eq_true rfl) (by decide) (by decide) (fun v6 => ?_)
    refine J_iand (show Dc Y_X11_unlike 35 (.iand) 1 36 from ⟨by decide +kernel, rfl⟩) ?_
    refine J_istore_n [some (.ref x0), some (.int x1), some (.int x2), some (.int (v4 &&& v6)), none, none, none, none] (show Dc Y_X11_unlike 36 (.istore_n 3) 1 37 from ⟨by decide +kernel, rfl⟩) rfl (by decide) rfl rfl ?_
    refine J_iconst (0 : Int32) rfl (show Dc Y_X11_unlike 37 (.iconst 0) 1 38 from ⟨by decide +kernel, rfl⟩) ?_
    refine J_istore [some (.ref x0), some (.int x1), some (.int x2), some (.int (v4 &&& v6)), some (.int (0 : Int32)), none, none, none] (show Dc Y_X11_unlike 38 (.istore 4) 2 40 from ⟨by decide +kernel, rfl⟩) (by decide) rfl rfl ?_
    refine J_iconst (0 : Int32) rfl (show Dc Y_X11_unlike 40 (.iconst 0) 1 41 from ⟨by decide +kernel, rfl⟩) ?_
    refine J_istore [some (.ref x0), some (.int x1), some (.int x2), some (.int (v4 &&& v6)), some (.int (0 : Int32)), some (.int (0 : Int32)), none, none] (show Dc Y_X11_unlike 41 (.istore 5) 2 43 from ⟨by decide +kernel, rfl⟩) (by decide) rfl rfl ?_
    refine J_mask [true, false, false, true, true, true, false, false] ?_
    exact J_loop (X := X) (K := K) (uc := fun _ => 0) (us := fun _ => 0) (lf := fun s => [some (.ref x0), none, none, some (.int (v4 &&& v6)), some (.int s.1), some (.int s.2), none, none]) (gf := fun s => g2) (fun s => j_X11_unlike_43 (K := zKl Y_X11_unlike X 43 (fun _ => 0) (fun _ => 0) (fun s => [some (.ref x0), none, none, some (.int (v4 &&& v6)), some (.int s.1), some (.int s.2), none, none]) (fun s => g2) K) N x0 (v4 &&& v6) s.1 s.2 g2 h0 (fun s h => h)) N ((0 : Int32), (0 : Int32))
  · refine J_iconst (-1 : Int32) rfl (show Dc Y_X11_unlike 9 (.iconst (-1)) 1 10 from ⟨by decide +kernel, rfl⟩) ?_
    exact J_reti (show Dc Y_X11_unlike 10 (.ireturn) 1 11 from ⟨by decide +kernel, rfl⟩) rfl (h0 _ _) (by decide) (by decide)

theorem c_X11_unlike {l : Launch} {D : ZD} {B0 : Nat} (N : Nat) (x0 : Nat) (x1 : Int32) (x2 : Int32) (g : ZS) : ∀ r, f_X11_unlike N x0 x1 x2 g = some r → zCt l D B0 yX11_unlike Y_X11_unlike [.ref x0, .int x1, .int x2] g (some (.int r.1)) r.2 :=
  zCt_ofF (vo := fun r => some (.int r.1)) (so := fun r => r.2) (by decide +kernel) rfl (fun h => by cases h) rfl (Nat.le_of_ble_eq_true rfl) (fun X => j_X11_unlike N x0 x1 x2 g (fun _ _ h => h))

theorem j_X7_add_39 {X : ZX}    (g : ZS) {K : ZS → Prop} (h0 : ∀ g, K g → xK X none g) : J Y_X7_add X 0 0 39 [none, none, none] [] g (f_X7_add_39 g) K := by
  unfold f_X7_add_39
  exact J_ret0 (show Dc Y_X7_add 39 (.return_) 1 40 from ⟨by decide +kernel, rfl⟩) rfl (h0 _) (by decide) (by decide)

theorem j_X7_add {X : ZX} (x0 : Nat) (x1 : Int32) (x2 : Int32)   (g : ZS) {K : ZS → Prop} (h0 : ∀ g, K g → xK X none g) : J Y_X7_add X 0 0 0 [some (.ref x0), some (.int x1), some (.int x2)] [] g (f_X7_add x0 x1 x2 g) K := by
  unfold f_X7_add
  refine J_aload_n rfl rfl (show Dc Y_X7_add 0 (.aload_n 0) 1 1 from ⟨by decide +kernel, rfl⟩) ?_
  refine J_getI (show Dc Y_X7_add 1 (.getfield 27) 3 4 from ⟨by decide +kernel, rfl⟩) w_f_RX7_27 rfl (fun v1 => ?_)
  refine J_bipush (12 : Int32) rfl (show Dc Y_X7_add 4 (.bipush 12) 2 6 from ⟨by decide +kernel, rfl⟩) ?_
  refine J_icmp_ge (tg := 39) (show Dc Y_X7_add 6 (.if_icmp .ge 33) 3 9 from ⟨by decide +kernel, rfl⟩) (by decide) (fun h => ?_) (fun h => ?_)
  · refine J_mask [false, false, false] ?_
    exact j_X7_add_39 g h0
  · refine J_aload_n rfl rfl (show Dc Y_X7_add 9 (.aload_n 0) 1 10 from ⟨by decide +kernel, rfl⟩) ?_
    refine J_getR (show Dc Y_X7_add 10 (.getfield 9) 3 13 from ⟨by decide +kernel, rfl⟩) w_f_RX7_9 rfl (fun v2 => ?_)
    refine J_aload_n rfl rfl (show Dc Y_X7_add 13 (.aload_n 0) 1 14 from ⟨by decide +kernel, rfl⟩) ?_
    refine J_getI (show Dc Y_X7_add 14 (.getfield 27) 3 17 from ⟨by decide +kernel, rfl⟩) w_f_RX7_27 rfl (fun v3 => ?_)
    refine J_iload_n rfl rfl (show Dc Y_X7_add 17 (.iload_n 1) 1 18 from ⟨by decide +kernel, rfl⟩) ?_
    refine J_iast (show Dc Y_X7_add 18 (.iastore) 1 19 from ⟨by decide +kernel, rfl⟩) (fun g4 => ?_)
    refine J_aload_n rfl rfl (show Dc Y_X7_add 19 (.aload_n 0) 1 20 from ⟨by decide +kernel, rfl⟩) ?_
    refine J_getR (show Dc Y_X7_add 20 (.getfield 15) 3 23 from ⟨by decide +kernel, rfl⟩) w_f_RX7_15 rfl (fun v5 => ?_)
    refine J_aload_n rfl rfl (show Dc Y_X7_add 23 (.aload_n 0) 1 24 from ⟨by decide +kernel, rfl⟩) ?_
    refine J_getI (show Dc Y_X7_add 24 (.getfield 27) 3 27 from ⟨by decide +kernel, rfl⟩) w_f_RX7_27 rfl (fun v6 => ?_)
    refine J_iload_n rfl rfl (show Dc Y_X7_add 27 (.iload_n 2) 1 28 from ⟨by decide +kernel, rfl⟩) ?_
    refine J_iast (show Dc Y_X7_add 28 (.iastore) 1 29 from ⟨by decide +kernel, rfl⟩) (fun g7 => ?_)
    refine J_aload_n rfl rfl (show Dc Y_X7_add 29 (.aload_n 0) 1 30 from ⟨by decide +kernel, rfl⟩) ?_
    refine J_dup rfl (show Dc Y_X7_add 30 (.dup) 1 31 from ⟨by decide +kernel, rfl⟩) ?_
    refine J_getI (show Dc Y_X7_add 31 (.getfield 27) 3 34 from ⟨by decide +kernel, rfl⟩) w_f_RX7_27 rfl (fun v8 => ?_)
    refine J_iconst (1 : Int32) rfl (show Dc Y_X7_add 34 (.iconst 1) 1 35 from ⟨by decide +kernel, rfl⟩) ?_
    refine J_iadd (show Dc Y_X7_add 35 (.iadd) 1 36 from ⟨by decide +kernel, rfl⟩) ?_
    refine J_putI (show Dc Y_X7_add 36 (.putfield 27) 3 39 from ⟨by decide +kernel, rfl⟩) w_f_RX7_27 rfl rfl (fun g9 => ?_) (fun h => by cases h)
    refine J_mask [false, false, false] ?_
    exact j_X7_add_39 g9 h0

theorem c_X7_add {l : Launch} {D : ZD} {B0 : Nat} (x0 : Nat) (x1 : Int32) (x2 : Int32) (g : ZS) : ∀ r, f_X7_add x0 x1 x2 g = some r → zCt l D B0 yX7_add Y_X7_add [.ref x0, .int x1, .int x2] g none r :=
  zCt_ofF (vo := fun _ => none) (so := fun r => r) (by decide +kernel) rfl (fun h => by cases h) rfl (Nat.le_of_ble_eq_true rfl) (fun X => j_X7_add x0 x1 x2 g (fun _ h => h))

theorem j_X11_before_31 {X : ZX}    (g : ZS) {K : (Int32 × ZS) → Prop} (h0 : ∀ v g, K (v, g) → xK X (some (.int v)) g) : J Y_X11_before X 0 0 31 [none, none, none] [] g (f_X11_before_31 g) K := by
  unfold f_X11_before_31
  refine J_iconst (-1 : Int32) rfl (show Dc Y_X11_before 31 (.iconst (-1)) 1 32 from ⟨by decide +kernel, rfl⟩) ?_
  exact J_reti (show Dc Y_X11_before 32 (.ireturn) 1 33 from ⟨by decide +kernel, rfl⟩) rfl (h0 _ _) (by decide) (by decide)

theorem j_X11_before {X : ZX} (x0 : Nat) (x1 : Int32) (x2 : Int32)   (g : ZS) {K : (Int32 × ZS) → Prop} (h0 : ∀ v g, K (v, g) → xK X (some (.int v)) g) : J Y_X11_before X 0 0 0 [some (.ref x0), some (.int x1), some (.int x2)] [] g (f_X11_before x0 x1 x2 g) K := by
  unfold f_X11_before
  refine J_iload_n rfl rfl (show Dc Y_X11_before 0 (.iload_n 1) 1 1 from ⟨by decide +kernel, rfl⟩) ?_
  refine J_callSi (fun r => r) (fun _ => g) (show Dc Y_X11_before 1 (.invokestatic 196) 3 4 from ⟨by decide +kernel, rfl⟩) w_m_RX11_196 w_st_X11_isWord w_cw_X11_isWord (c_X11_isWord x1 g) rfl rfl (by decide) (Nat.le_of_ble_eq_true rfl) (by decide) (by decide) (fun v1 => ?_)
  refine J_if_eq (tg := 31) (show Dc Y_X11_before 4 (.ifCond .eq 27) 3 7 from ⟨by decide +kernel, rfl⟩) (by decide) (fun h => ?_) (fun h => ?_)
  · refine J_mask [false, false, false] ?_
    exact j_X11_before_31 g h0
  · refine J_iload_n rfl rfl (show Dc Y_X11_before 7 (.iload_n 2) 1 8 from ⟨by decide +kernel, rfl⟩) ?_
    refine J_callSi (fun r => r) (fun _ => g) (show Dc Y_X11_before 8 (.invokestatic 196) 3 11 from ⟨by decide +kernel, rfl⟩) w_m_RX11_196 w_st_X11_isWord w_cw_X11_isWord (c_X11_isWord x2 g) rfl rfl (by decide) (Nat.le_of_ble_eq_true rfl) (by decide) (by decide) (fun v2 => ?_)
    refine J_if_eq (tg := 31) (show Dc Y_X11_before 11 (.ifCond .eq 20) 3 14 from ⟨by decide +kernel, rfl⟩) (by decide) (fun h => ?_) (fun h => ?_)
    · refine J_mask [false, false, false] ?_
      exact j_X11_before_31 g h0
    · refine J_iload_n rfl rfl (show Dc Y_X11_before 14 (.iload_n 1) 1 15 from ⟨by decide +kernel, rfl⟩) ?_
      refine J_iload_n rfl rfl (show Dc Y_X11_before 15 (.iload_n 2) 1 16 from ⟨by decide +kernel, rfl⟩) ?_
      refine J_icmp_eq (tg := 31) (show Dc Y_X11_before 16 (.if_icmp .eq 15) 3 19 from ⟨by decide +kernel, rfl⟩) (by decide) (fun h => ?_) (fun h => ?_)
      · refine J_mask [false, false, false] ?_
        exact j_X11_before_31 g h0
      · refine J_aload_n rfl rfl (show Dc Y_X11_before 19 (.aload_n 0) 1 20 from ⟨by decide +kernel, rfl⟩) ?_
        refine J_getR (show Dc Y_X11_before 20 (.getfield 89) 3 23 from ⟨by decide +kernel, rfl⟩) w_f_RX11_89 rfl (fun v3 => ?_)
        refine J_getI (show Dc Y_X11_before 23 (.getfield 390) 3 26 from ⟨by decide +kernel, rfl⟩) w_f_RX11_390 rfl (fun v4 => ?_)
        refine J_bipush (12 : Int32) rfl (show Dc Y_X11_before 26 (.bipush 12) 2 28 from ⟨by decide +kernel, rfl⟩) ?_
        refine J_icmp_lt (tg := 33) (show Dc Y_X11_before 28 (.if_icmp .lt 5) 3 31 from ⟨by decide +kernel, rfl⟩) (by decide) (fun h => ?_) (fun h => ?_)
        · refine J_aload_n rfl rfl (show Dc Y_X11_before 33 (.aload_n 0) 1 34 from ⟨by decide +kernel, rfl⟩) ?_
          refine J_getR (show Dc Y_X11_before 34 (.getfield 89) 3 37 from ⟨by decide +kernel, rfl⟩) w_f_RX11_89 rfl (fun v5 => ?_)
          refine J_iload_n rfl rfl (show Dc Y_X11_before 37 (.iload_n 1) 1 38 from ⟨by decide +kernel, rfl⟩) ?_
          refine J_iload_n rfl rfl (show Dc Y_X11_before 38 (.iload_n 2) 1 39 from ⟨by decide +kernel, rfl⟩) ?_
          refine J_callVv (fun r => r) (show Dc Y_X11_before 39 (.invokevirtual 391) 3 42 from ⟨by decide +kernel, rfl⟩) w_m_RX11_391 w_in_X7_add rfl w_se_X7_add w_cw_X7_add (c_X7_add v5 x1 x2 g) rfl rfl (by decide) (Nat.le_of_ble_eq_true rfl) (by decide) (by decide) (fun g6 => ?_)
          refine J_aload_n rfl rfl (show Dc Y_X11_before 42 (.aload_n 0) 1 43 from ⟨by decide +kernel, rfl⟩) ?_
          refine J_getR (show Dc Y_X11_before 43 (.getfield 89) 3 46 from ⟨by decide +kernel, rfl⟩) w_f_RX11_89 rfl (fun v7 => ?_)
          refine J_getI (show Dc Y_X11_before 46 (.getfield 390) 3 49 from ⟨by decide +kernel, rfl⟩) w_f_RX11_390 rfl (fun v8 => ?_)
          exact J_reti (show Dc Y_X11_before 49 (.ireturn) 1 50 from ⟨by decide +kernel, rfl⟩) rfl (h0 _ _) (by decide) (by decide)
        · refine J_mask [false, false, false] ?_
          exact j_X11_before_31 g h0

theorem c_X11_before {l : Launch} {D : ZD} {B0 : Nat} (x0 : Nat) (x1 : Int32) (x2 : Int32) (g : ZS) : ∀ r, f_X11_before x0 x1 x2 g = some r → zCt l D B0 yX11_before Y_X11_before [.ref x0, .int x1, .int x2] g (some (.int r.1)) r.2 :=
  zCt_ofF (vo := fun r => some (.int r.1)) (so := fun r => r.2) (by decide +kernel) rfl (fun h => by cases h) rfl (Nat.le_of_ble_eq_true rfl) (fun X => j_X11_before x0 x1 x2 g (fun _ _ h => h))

theorem j_X12_before_33 {X : ZX}    (g : ZS) {K : (Int32 × ZS) → Prop} (h0 : ∀ v g, K (v, g) → xK X (some (.int v)) g) : J Y_X12_before X 0 0 33 [none, none, none] [] g (f_X12_before_33 g) K := by
  unfold f_X12_before_33
  refine J_iconst (-1 : Int32) rfl (show Dc Y_X12_before 33 (.iconst (-1)) 1 34 from ⟨by decide +kernel, rfl⟩) ?_
  exact J_reti (show Dc Y_X12_before 34 (.ireturn) 1 35 from ⟨by decide +kernel, rfl⟩) rfl (h0 _ _) (by decide) (by decide)

theorem j_X12_before {X : ZX} (x0 : Nat) (x1 : Int32) (x2 : Int32)   (g : ZS) {K : (Int32 × ZS) → Prop} (h0 : ∀ v g, K (v, g) → xK X (some (.int v)) g) : J Y_X12_before X 0 0 0 [some (.ref x0), some (.int x1), some (.int x2)] [] g (f_X12_before x0 x1 x2 g) K := by
  unfold f_X12_before
  refine J_aload_n rfl rfl (show Dc Y_X12_before 0 (.aload_n 0) 1 1 from ⟨by decide +kernel, rfl⟩) ?_
  refine J_iconst (0 : Int32) rfl (show Dc Y_X12_before 1 (.iconst 0) 1 2 from ⟨by decide +kernel, rfl⟩) ?_
  refine J_putI (show Dc Y_X12_before 2 (.putfield 109) 3 5 from ⟨by decide +kernel, rfl⟩) w_f_RX12_109 rfl rfl (fun g1 => ?_) (fun h => by cases h)
  refine J_iload_n rfl rfl (show Dc Y_X12_before 5 (.iload_n 1) 1 6 from ⟨by decide +kernel, rfl⟩) ?_
  refine J_callSi (fun r => r) (fun _ => g1) (show Dc Y_X12_before 6 (.invokestatic 244) 3 9 from ⟨by decide +kernel, rfl⟩) w_m_RX12_244 w_st_X12_isWord w_cw_X12_isWord (c_X12_isWord x1 g1) rfl rfl (by decide) (Nat.le_of_ble_eq_true rfl) (by decide) (by decide) (fun v2 => ?_)
  refine J_if_eq (tg := 33) (show Dc Y_X12_before 9 (.ifCond .eq 24) 3 12 from ⟨by decide +kernel, rfl⟩) (by decide) (fun h => ?_) (fun h => ?_)
  · refine J_mask [false, false, false] ?_
    exact j_X12_before_33 g1 h0
  · refine J_iload_n rfl rfl (show Dc Y_X12_before 12 (.iload_n 2) 1 13 from ⟨by decide +kernel, rfl⟩) ?_
    refine J_callSi (fun r => r) (fun _ => g1) (show Dc Y_X12_before 13 (.invokestatic 244) 3 16 from ⟨by decide +kernel, rfl⟩) w_m_RX12_244 w_st_X12_isWord w_cw_X12_isWord (c_X12_isWord x2 g1) rfl rfl (by decide) (Nat.le_of_ble_eq_true rfl) (by decide) (by decide) (fun v3 => ?_)
    refine J_if_eq (tg := 33) (show Dc Y_X12_before 16 (.ifCond .eq 17) 3 19 from ⟨by decide +kernel, rfl⟩) (by decide) (fun h => ?_) (fun h => ?_)
    · refine J_mask [false, false, false] ?_
      exact j_X12_before_33 g1 h0
    · refine J_iload_n rfl rfl (show Dc Y_X12_before 19 (.iload_n 1) 1 20 from ⟨by decide +kernel, rfl⟩) ?_
      refine J_iload_n rfl rfl (show Dc Y_X12_before 20 (.iload_n 2) 1 21 from ⟨by decide +kernel, rfl⟩) ?_
      refine J_icmp_eq (tg := 33) (show Dc Y_X12_before 21 (.if_icmp .eq 12) 3 24 from ⟨by decide +kernel, rfl⟩) (by decide) (fun h => ?_) (fun h => ?_)
      · refine J_mask [false, false, false] ?_
        exact j_X12_before_33 g1 h0
      · refine J_aload_n rfl rfl (show Dc Y_X12_before 24 (.aload_n 0) 1 25 from ⟨by decide +kernel, rfl⟩) ?_
        refine J_getI (show Dc Y_X12_before 25 (.getfield 351) 3 28 from ⟨by decide +kernel, rfl⟩) w_f_RX12_351 rfl (fun v4 => ?_)
        refine J_bipush (12 : Int32) rfl (show Dc Y_X12_before 28 (.bipush 12) 2 30 from ⟨by decide +kernel, rfl⟩) ?_
        refine J_icmp_ne (tg := 35) (show Dc Y_X12_before 30 (.if_icmp .ne 5) 3 33 from ⟨by decide +kernel, rfl⟩) (by decide) (fun h => ?_) (fun h => ?_)
        · refine J_aload_n rfl rfl (show Dc Y_X12_before 35 (.aload_n 0) 1 36 from ⟨by decide +kernel, rfl⟩) ?_
          refine J_getR (show Dc Y_X12_before 36 (.getfield 78) 3 39 from ⟨by decide +kernel, rfl⟩) w_f_RX12_78 rfl (fun v5 => ?_)
          refine J_aload_n rfl rfl (show Dc Y_X12_before 39 (.aload_n 0) 1 40 from ⟨by decide +kernel, rfl⟩) ?_
          refine J_getI (show Dc Y_X12_before 40 (.getfield 351) 3 43 from ⟨by decide +kernel, rfl⟩) w_f_RX12_351 rfl (fun v6 => ?_)
          refine J_iload_n rfl rfl (show Dc Y_X12_before 43 (.iload_n 1) 1 44 from ⟨by decide +kernel, rfl⟩) ?_
          refine J_iast (show Dc Y_X12_before 44 (.iastore) 1 45 from ⟨by decide +kernel, rfl⟩) (fun g7 => ?_)
          refine J_aload_n rfl rfl (show Dc Y_X12_before 45 (.aload_n 0) 1 46 from ⟨by decide +kernel, rfl⟩) ?_
          refine J_getR (show Dc Y_X12_before 46 (.getfield 81) 3 49 from ⟨by decide +kernel, rfl⟩) w_f_RX12_81 rfl (fun v8 => ?_)
          refine J_aload_n rfl rfl (show Dc Y_X12_before 49 (.aload_n 0) 1 50 from ⟨by decide +kernel, rfl⟩) ?_
          refine J_getI (show Dc Y_X12_before 50 (.getfield 351) 3 53 from ⟨by decide +kernel, rfl⟩) w_f_RX12_351 rfl (fun v9 => ?_)
          refine J_iload_n rfl rfl (show Dc Y_X12_before 53 (.iload_n 2) 1 54 from ⟨by decide +kernel, rfl⟩) ?_
          refine J_iast (show Dc Y_X12_before 54 (.iastore) 1 55 from ⟨by decide +kernel, rfl⟩) (fun g10 => ?_)
          refine J_aload_n rfl rfl (show Dc Y_X12_before 55 (.aload_n 0) 1 56 from ⟨by decide +kernel, rfl⟩) ?_
          refine J_dup rfl (show Dc Y_X12_before 56 (.dup) 1 57 from ⟨by decide +kernel, rfl⟩) ?_
          refine J_getI (show Dc Y_X12_before 57 (.getfield 351) 3 60 from ⟨by decide +kernel, rfl⟩) w_f_RX12_351 rfl (fun v11 => ?_)
          refine J_iconst (1 : Int32) rfl (show Dc Y_X12_before 60 (.iconst 1) 1 61 from ⟨by decide +kernel, rfl⟩) ?_
          refine J_iadd (show Dc Y_X12_before 61 (.iadd) 1 62 from ⟨by decide +kernel, rfl⟩) ?_
          refine J_putI (show Dc Y_X12_before 62 (.putfield 351) 3 65 from ⟨by decide +kernel, rfl⟩) w_f_RX12_351 rfl rfl (fun g12 => ?_) (fun h => by cases h)
          refine J_aload_n rfl rfl (show Dc Y_X12_before 65 (.aload_n 0) 1 66 from ⟨by decide +kernel, rfl⟩) ?_
          refine J_getI (show Dc Y_X12_before 66 (.getfield 351) 3 69 from ⟨by decide +kernel, rfl⟩) w_f_RX12_351 rfl (fun v13 => ?_)
          exact J_reti (show Dc Y_X12_before 69 (.ireturn) 1 70 from ⟨by decide +kernel, rfl⟩) rfl (h0 _ _) (by decide) (by decide)
        · refine J_mask [false, false, false] ?_
          exact j_X12_before_33 g1 h0

theorem c_X12_before {l : Launch} {D : ZD} {B0 : Nat} (x0 : Nat) (x1 : Int32) (x2 : Int32) (g : ZS) : ∀ r, f_X12_before x0 x1 x2 g = some r → zCt l D B0 yX12_before Y_X12_before [.ref x0, .int x1, .int x2] g (some (.int r.1)) r.2 :=
  zCt_ofF (vo := fun r => some (.int r.1)) (so := fun r => r.2) (by decide +kernel) rfl (fun h => by cases h) rfl (Nat.le_of_ble_eq_true rfl) (fun X => j_X12_before x0 x1 x2 g (fun _ _ h => h))

theorem j_X11_forget {X : ZX} (x0 : Nat)   (g : ZS) {K : (Int32 × ZS) → Prop} (h0 : ∀ v g, K (v, g) → xK X (some (.int v)) g) : J Y_X11_forget X 0 0 0 [some (.ref x0), none] [] g (f_X11_forget x0 g) K := by
  unfold f_X11_forget
  refine J_aload_n rfl rfl (show Dc Y_X11_forget 0 (.aload_n 0) 1 1 from ⟨by decide +kernel, rfl⟩) ?_
  refine J_getR (show Dc Y_X11_forget 1 (.getfield 89) 3 4 from ⟨by decide +kernel, rfl⟩) w_f_RX11_89 rfl (fun v1 => ?_)
  refine J_getI (show Dc Y_X11_forget 4 (.getfield 390) 3 7 from ⟨by decide +kernel, rfl⟩) w_f_RX11_390 rfl (fun v2 => ?_)
  refine J_istore_n [some (.ref x0), some (.int v2)] (show Dc Y_X11_forget 7 (.istore_n 1) 1 8 from ⟨by decide +kernel, rfl⟩) rfl (by decide) rfl rfl ?_
  refine J_aload_n rfl rfl (show Dc Y_X11_forget 8 (.aload_n 0) 1 9 from ⟨by decide +kernel, rfl⟩) ?_
  refine J_getR (show Dc Y_X11_forget 9 (.getfield 89) 3 12 from ⟨by decide +kernel, rfl⟩) w_f_RX11_89 rfl (fun v3 => ?_)
  refine J_iconst (0 : Int32) rfl (show Dc Y_X11_forget 12 (.iconst 0) 1 13 from ⟨by decide +kernel, rfl⟩) ?_
  refine J_putI (show Dc Y_X11_forget 13 (.putfield 390) 3 16 from ⟨by decide +kernel, rfl⟩) w_f_RX11_390 rfl rfl (fun g4 => ?_) (fun h => by cases h)
  refine J_iload_n rfl rfl (show Dc Y_X11_forget 16 (.iload_n 1) 1 17 from ⟨by decide +kernel, rfl⟩) ?_
  exact J_reti (show Dc Y_X11_forget 17 (.ireturn) 1 18 from ⟨by decide +kernel, rfl⟩) rfl (h0 _ _) (by decide) (by decide)

theorem c_X11_forget {l : Launch} {D : ZD} {B0 : Nat} (x0 : Nat) (g : ZS) : ∀ r, f_X11_forget x0 g = some r → zCt l D B0 yX11_forget Y_X11_forget [.ref x0] g (some (.int r.1)) r.2 :=
  zCt_ofF (vo := fun r => some (.int r.1)) (so := fun r => r.2) (by decide +kernel) rfl (fun h => by cases h) rfl (Nat.le_of_ble_eq_true rfl) (fun X => j_X11_forget x0 g (fun _ _ h => h))

theorem j_X12_forget {X : ZX} (x0 : Nat)   (g : ZS) {K : (Int32 × ZS) → Prop} (h0 : ∀ v g, K (v, g) → xK X (some (.int v)) g) : J Y_X12_forget X 0 0 0 [some (.ref x0), none] [] g (f_X12_forget x0 g) K := by
  unfold f_X12_forget
  refine J_aload_n rfl rfl (show Dc Y_X12_forget 0 (.aload_n 0) 1 1 from ⟨by decide +kernel, rfl⟩) ?_
  refine J_iconst (0 : Int32) rfl (show Dc Y_X12_forget 1 (.iconst 0) 1 2 from ⟨by decide +kernel, rfl⟩) ?_
  refine J_putI (show Dc Y_X12_forget 2 (.putfield 109) 3 5 from ⟨by decide +kernel, rfl⟩) w_f_RX12_109 rfl rfl (fun g1 => ?_) (fun h => by cases h)
  refine J_aload_n rfl rfl (show Dc Y_X12_forget 5 (.aload_n 0) 1 6 from ⟨by decide +kernel, rfl⟩) ?_
  refine J_getI (show Dc Y_X12_forget 6 (.getfield 351) 3 9 from ⟨by decide +kernel, rfl⟩) w_f_RX12_351 rfl (fun v2 => ?_)
  refine J_istore_n [some (.ref x0), some (.int v2)] (show Dc Y_X12_forget 9 (.istore_n 1) 1 10 from ⟨by decide +kernel, rfl⟩) rfl (by decide) rfl rfl ?_
  refine J_aload_n rfl rfl (show Dc Y_X12_forget 10 (.aload_n 0) 1 11 from ⟨by decide +kernel, rfl⟩) ?_
  refine J_iconst (0 : Int32) rfl (show Dc Y_X12_forget 11 (.iconst 0) 1 12 from ⟨by decide +kernel, rfl⟩) ?_
  refine J_putI (show Dc Y_X12_forget 12 (.putfield 351) 3 15 from ⟨by decide +kernel, rfl⟩) w_f_RX12_351 rfl rfl (fun g3 => ?_) (fun h => by cases h)
  refine J_iload_n rfl rfl (show Dc Y_X12_forget 15 (.iload_n 1) 1 16 from ⟨by decide +kernel, rfl⟩) ?_
  exact J_reti (show Dc Y_X12_forget 16 (.ireturn) 1 17 from ⟨by decide +kernel, rfl⟩) rfl (h0 _ _) (by decide) (by decide)

theorem c_X12_forget {l : Launch} {D : ZD} {B0 : Nat} (x0 : Nat) (g : ZS) : ∀ r, f_X12_forget x0 g = some r → zCt l D B0 yX12_forget Y_X12_forget [.ref x0] g (some (.int r.1)) r.2 :=
  zCt_ofF (vo := fun r => some (.int r.1)) (so := fun r => r.2) (by decide +kernel) rfl (fun h => by cases h) rfl (Nat.le_of_ble_eq_true rfl) (fun X => j_X12_forget x0 g (fun _ _ h => h))

theorem j_X7_gatherNexts_23 {X : ZX} (N : Nat) (x0 : Nat) (x1 : Int32)   (g : ZS) {K : ((Int32 × ZS) ⊕ ZS) → Prop} (h0 : ∀ g, K (.inr g) → xK X none g) (hL23 : ∀ s, K (.inl s) → zG Y_X7_gatherNexts X 0 0 23 [some (.ref x0), some (.int s.1)] [] s.2) : J Y_X7_gatherNexts X 0 0 23 [some (.ref x0), some (.int x1)] [] g (f_X7_gatherNexts_23 N x0 x1 g) K := by
  unfold f_X7_gatherNexts_23
  refine J_iload_n rfl rfl (show Dc Y_X7_gatherNexts 23 (.iload_n 1) 1 24 from ⟨by decide +kernel, rfl⟩) ?_
  refine J_aload_n rfl rfl (show Dc Y_X7_gatherNexts 24 (.aload_n 0) 1 25 from ⟨by decide +kernel, rfl⟩) ?_
  refine J_getI (show Dc Y_X7_gatherNexts 25 (.getfield 27) 3 28 from ⟨by decide +kernel, rfl⟩) w_f_RX7_27 rfl (fun v1 => ?_)
  refine J_icmp_ge (tg := 59) (show Dc Y_X7_gatherNexts 28 (.if_icmp .ge 31) 3 31 from ⟨by decide +kernel, rfl⟩) (by decide) (fun h => ?_) (fun h => ?_)
  · refine J_map (f := Sum.inr) (fun _ h => h) ?_
    exact J_ret0 (show Dc Y_X7_gatherNexts 59 (.return_) 1 60 from ⟨by decide +kernel, rfl⟩) rfl (h0 _) (by decide) (by decide)
  · refine J_aload_n rfl rfl (show Dc Y_X7_gatherNexts 31 (.aload_n 0) 1 32 from ⟨by decide +kernel, rfl⟩) ?_
    refine J_getR (show Dc Y_X7_gatherNexts 32 (.getfield 18) 3 35 from ⟨by decide +kernel, rfl⟩) w_f_RX7_18 rfl (fun v2 => ?_)
    refine J_aload_n rfl rfl (show Dc Y_X7_gatherNexts 35 (.aload_n 0) 1 36 from ⟨by decide +kernel, rfl⟩) ?_
    refine J_getR (show Dc Y_X7_gatherNexts 36 (.getfield 9) 3 39 from ⟨by decide +kernel, rfl⟩) w_f_RX7_9 rfl (fun v3 => ?_)
    refine J_iload_n rfl rfl (show Dc Y_X7_gatherNexts 39 (.iload_n 1) 1 40 from ⟨by decide +kernel, rfl⟩) ?_
    refine J_iald (show Dc Y_X7_gatherNexts 40 (.iaload) 1 41 from ⟨by decide +kernel, rfl⟩) (fun v4 => ?_)
    refine J_dup2 rfl rfl (show Dc Y_X7_gatherNexts 41 (.dup2) 1 42 from ⟨by decide +kernel, rfl⟩) ?_
    refine J_iald (show Dc Y_X7_gatherNexts 42 (.iaload) 1 43 from ⟨by decide +kernel, rfl⟩) (fun v5 => ?_)
    refine J_iconst (1 : Int32) rfl (show Dc Y_X7_gatherNexts 43 (.iconst 1) 1 44 from ⟨by decide +kernel, rfl⟩) ?_
    refine J_aload_n rfl rfl (show Dc Y_X7_gatherNexts 44 (.aload_n 0) 1 45 from ⟨by decide +kernel, rfl⟩) ?_
    refine J_getR (show Dc Y_X7_gatherNexts 45 (.getfield 15) 3 48 from ⟨by decide +kernel, rfl⟩) w_f_RX7_15 rfl (fun v6 => ?_)
    refine J_iload_n rfl rfl (show Dc Y_X7_gatherNexts 48 (.iload_n 1) 1 49 from ⟨by decide +kernel, rfl⟩) ?_
    refine J_iald (show Dc Y_X7_gatherNexts 49 (.iaload) 1 50 from ⟨by decide +kernel, rfl⟩) (fun v7 => ?_)
    refine J_ishl (show Dc Y_X7_gatherNexts 50 (.ishl) 1 51 from ⟨by decide +kernel, rfl⟩) ?_
    refine J_ior (show Dc Y_X7_gatherNexts 51 (.ior) 1 52 from ⟨by decide +kernel, rfl⟩) ?_
    refine J_iast (show Dc Y_X7_gatherNexts 52 (.iastore) 1 53 from ⟨by decide +kernel, rfl⟩) (fun g8 => ?_)
    refine J_iinc (1 : Int32) [some (.ref x0), some (.int (x1 + (1 : Int32)))] (show Dc Y_X7_gatherNexts 53 (.iinc 1 1) 3 56 from ⟨by decide +kernel, rfl⟩) rfl rfl (by decide) rfl rfl ?_
    refine J_goto (tg := 23) (show Dc Y_X7_gatherNexts 56 (.goto (-33)) 3 59 from ⟨by decide +kernel, rfl⟩) (by decide) ?_
    exact J_leaf (fun h => hL23 (x1 + (1 : Int32), g8) h)

theorem j_X7_gatherNexts_2 {X : ZX} (N : Nat) (x0 : Nat) (x1 : Int32)   (g : ZS) {K : ((Int32 × ZS) ⊕ ZS) → Prop} (h0 : ∀ g, K (.inr g) → xK X none g) (hL2 : ∀ s, K (.inl s) → zG Y_X7_gatherNexts X 0 0 2 [some (.ref x0), some (.int s.1)] [] s.2) : J Y_X7_gatherNexts X 0 0 2 [some (.ref x0), some (.int x1)] [] g (f_X7_gatherNexts_2 N x0 x1 g) K := by
  unfold f_X7_gatherNexts_2
  refine J_iload_n rfl rfl (show Dc Y_X7_gatherNexts 2 (.iload_n 1) 1 3 from ⟨by decide +kernel, rfl⟩) ?_
  refine J_bipush (8 : Int32) rfl (show Dc Y_X7_gatherNexts 3 (.bipush 8) 2 5 from ⟨by decide +kernel, rfl⟩) ?_
  refine J_icmp_ge (tg := 21) (show Dc Y_X7_gatherNexts 5 (.if_icmp .ge 16) 3 8 from ⟨by decide +kernel, rfl⟩) (by decide) (fun h => ?_) (fun h => ?_)
  · refine J_map (f := Sum.inr) (fun _ h => h) ?_
    refine J_iconst (0 : Int32) rfl (show Dc Y_X7_gatherNexts 21 (.iconst 0) 1 22 from ⟨by decide +kernel, rfl⟩) ?_
    refine J_istore_n [some (.ref x0), some (.int (0 : Int32))] (show Dc Y_X7_gatherNexts 22 (.istore_n 1) 1 23 from ⟨by decide +kernel, rfl⟩) rfl (by decide) rfl rfl ?_
    exact J_loop (X := X) (K := (fun o => K (.inr o))) (uc := fun _ => 0) (us := fun _ => 0) (lf := fun s => [some (.ref x0), some (.int s.1)]) (gf := fun s => s.2) (fun s => j_X7_gatherNexts_23 (K := zKl Y_X7_gatherNexts X 23 (fun _ => 0) (fun _ => 0) (fun s => [some (.ref x0), some (.int s.1)]) (fun s => s.2) (fun o => K (.inr o))) N x0 s.1 s.2 h0 (fun s h => h)) N ((0 : Int32), g)
  · refine J_aload_n rfl rfl (show Dc Y_X7_gatherNexts 8 (.aload_n 0) 1 9 from ⟨by decide +kernel, rfl⟩) ?_
    refine J_getR (show Dc Y_X7_gatherNexts 9 (.getfield 18) 3 12 from ⟨by decide +kernel, rfl⟩) w_f_RX7_18 rfl (fun v1 => ?_)
    refine J_iload_n rfl rfl (show Dc Y_X7_gatherNexts 12 (.iload_n 1) 1 13 from ⟨by decide +kernel, rfl⟩) ?_
    refine J_iconst (0 : Int32) rfl (show Dc Y_X7_gatherNexts 13 (.iconst 0) 1 14 from ⟨by decide +kernel, rfl⟩) ?_
    refine J_iast (show Dc Y_X7_gatherNexts 14 (.iastore) 1 15 from ⟨by decide +kernel, rfl⟩) (fun g2 => ?_)
    refine J_iinc (1 : Int32) [some (.ref x0), some (.int (x1 + (1 : Int32)))] (show Dc Y_X7_gatherNexts 15 (.iinc 1 1) 3 18 from ⟨by decide +kernel, rfl⟩) rfl rfl (by decide) rfl rfl ?_
    refine J_goto (tg := 2) (show Dc Y_X7_gatherNexts 18 (.goto (-16)) 3 21 from ⟨by decide +kernel, rfl⟩) (by decide) ?_
    exact J_leaf (fun h => hL2 (x1 + (1 : Int32), g2) h)

theorem j_X7_gatherNexts {X : ZX} (N : Nat) (x0 : Nat)   (g : ZS) {K : ZS → Prop} (h0 : ∀ g, K g → xK X none g) : J Y_X7_gatherNexts X 0 0 0 [some (.ref x0), none] [] g (f_X7_gatherNexts N x0 g) K := by
  unfold f_X7_gatherNexts
  refine J_iconst (0 : Int32) rfl (show Dc Y_X7_gatherNexts 0 (.iconst 0) 1 1 from ⟨by decide +kernel, rfl⟩) ?_
  refine J_istore_n [some (.ref x0), some (.int (0 : Int32))] (show Dc Y_X7_gatherNexts 1 (.istore_n 1) 1 2 from ⟨by decide +kernel, rfl⟩) rfl (by decide) rfl rfl ?_
  exact J_loop (X := X) (K := K) (uc := fun _ => 0) (us := fun _ => 0) (lf := fun s => [some (.ref x0), some (.int s.1)]) (gf := fun s => s.2) (fun s => j_X7_gatherNexts_2 (K := zKl Y_X7_gatherNexts X 2 (fun _ => 0) (fun _ => 0) (fun s => [some (.ref x0), some (.int s.1)]) (fun s => s.2) K) N x0 s.1 s.2 h0 (fun s h => h)) N ((0 : Int32), g)

theorem c_X7_gatherNexts {l : Launch} {D : ZD} {B0 : Nat} (N : Nat) (x0 : Nat) (g : ZS) : ∀ r, f_X7_gatherNexts N x0 g = some r → zCt l D B0 yX7_gatherNexts Y_X7_gatherNexts [.ref x0] g none r :=
  zCt_ofF (vo := fun _ => none) (so := fun r => r) (by decide +kernel) rfl (fun h => by cases h) rfl (Nat.le_of_ble_eq_true rfl) (fun X => j_X7_gatherNexts N x0 g (fun _ h => h))

theorem j_X7_hasRing_69 {X : ZX} (N : Nat) (x0 : Nat) (x1 : Int32) (x2 : Int32) (x3 : Int32) (x4 : Int32) (s0 : Nat) (s1 : Int32) (s2 : Int32) (s3 : Int32)  (g : ZS) {K : ((Int32 × ZS) ⊕ ((Int32 × ZS) ⊕ (Int32 × ZS))) → Prop} (h0 : ∀ v g, K (.inr (.inr (v, g))) → xK X (some (.int v)) g) (hL11 : ∀ s, K (.inr (.inl s)) → zG Y_X7_hasRing X 0 0 11 [some (.ref x0), some (.int x1), some (.int x2), some (.int s.1), none] [] s.2) (hL28 : ∀ s, K (.inl s) → zG Y_X7_hasRing X 0 0 28 [some (.ref x0), some (.int x1), some (.int x2), some (.int x3), some (.int s.1)] [] s.2) : J Y_X7_hasRing X 0 0 69 [some (.ref x0), some (.int x1), some (.int x2), some (.int x3), some (.int x4)] [.int s3, .int s2, .int s1, .ref s0] g (f_X7_hasRing_69 N x0 x1 x2 x3 x4 s0 s1 s2 s3 g) K := by
  unfold f_X7_hasRing_69
  refine J_ior (show Dc Y_X7_hasRing 69 (.ior) 1 70 from ⟨by decide +kernel, rfl⟩) ?_
  refine J_iast (show Dc Y_X7_hasRing 70 (.iastore) 1 71 from ⟨by decide +kernel, rfl⟩) (fun g1 => ?_)
  refine J_iinc (1 : Int32) [some (.ref x0), some (.int x1), some (.int x2), some (.int x3), some (.int (x4 + (1 : Int32)))] (show Dc Y_X7_hasRing 71 (.iinc 4 1) 3 74 from ⟨by decide +kernel, rfl⟩) rfl rfl (by decide) rfl rfl ?_
  refine J_goto (tg := 28) (show Dc Y_X7_hasRing 74 (.goto (-46)) 3 77 from ⟨by decide +kernel, rfl⟩) (by decide) ?_
  exact J_leaf (fun h => hL28 (x4 + (1 : Int32), g1) h)

theorem j_X7_hasRing_28 {X : ZX} (N : Nat) (x0 : Nat) (x1 : Int32) (x2 : Int32) (x3 : Int32) (x4 : Int32)   (g : ZS) {K : ((Int32 × ZS) ⊕ ((Int32 × ZS) ⊕ (Int32 × ZS))) → Prop} (h0 : ∀ v g, K (.inr (.inr (v, g))) → xK X (some (.int v)) g) (hL11 : ∀ s, K (.inr (.inl s)) → zG Y_X7_hasRing X 0 0 11 [some (.ref x0), some (.int x1), some (.int x2), some (.int s.1), none] [] s.2) (hL28 : ∀ s, K (.inl s) → zG Y_X7_hasRing X 0 0 28 [some (.ref x0), some (.int x1), some (.int x2), some (.int x3), some (.int s.1)] [] s.2) : J Y_X7_hasRing X 0 0 28 [some (.ref x0), some (.int x1), some (.int x2), some (.int x3), some (.int x4)] [] g (f_X7_hasRing_28 N x0 x1 x2 x3 x4 g) K := by
  unfold f_X7_hasRing_28
  refine J_iload rfl (show Dc Y_X7_hasRing 28 (.iload 4) 2 30 from ⟨by decide +kernel, rfl⟩) ?_
  refine J_bipush (8 : Int32) rfl (show Dc Y_X7_hasRing 30 (.bipush 8) 2 32 from ⟨by decide +kernel, rfl⟩) ?_
  refine J_icmp_ge (tg := 77) (show Dc Y_X7_hasRing 32 (.if_icmp .ge 45) 3 35 from ⟨by decide +kernel, rfl⟩) (by decide) (fun h => ?_) (fun h => ?_)
  · refine J_map (f := Sum.inr) (fun _ h => h) ?_
    refine J_iinc (1 : Int32) [some (.ref x0), some (.int x1), some (.int x2), some (.int (x3 + (1 : Int32))), some (.int x4)] (show Dc Y_X7_hasRing 77 (.iinc 3 1) 3 80 from ⟨by decide +kernel, rfl⟩) rfl rfl (by decide) rfl rfl ?_
    refine J_goto (tg := 11) (show Dc Y_X7_hasRing 80 (.goto (-69)) 3 83 from ⟨by decide +kernel, rfl⟩) (by decide) ?_
    refine J_mask [true, true, true, true, false] ?_
    exact J_leaf (fun h => hL11 (x3 + (1 : Int32), g) h)
  · refine J_aload_n rfl rfl (show Dc Y_X7_hasRing 35 (.aload_n 0) 1 36 from ⟨by decide +kernel, rfl⟩) ?_
    refine J_getR (show Dc Y_X7_hasRing 36 (.getfield 21) 3 39 from ⟨by decide +kernel, rfl⟩) w_f_RX7_21 rfl (fun v1 => ?_)
    refine J_iload_n rfl rfl (show Dc Y_X7_hasRing 39 (.iload_n 3) 1 40 from ⟨by decide +kernel, rfl⟩) ?_
    refine J_dup2 rfl rfl (show Dc Y_X7_hasRing 40 (.dup2) 1 41 from ⟨by decide +kernel, rfl⟩) ?_
    refine J_iald (show Dc Y_X7_hasRing 41 (.iaload) 1 42 from ⟨by decide +kernel, rfl⟩) (fun v2 => ?_)
    refine J_aload_n rfl rfl (show Dc Y_X7_hasRing 42 (.aload_n 0) 1 43 from ⟨by decide +kernel, rfl⟩) ?_
    refine J_getR (show Dc Y_X7_hasRing 43 (.getfield 18) 3 46 from ⟨by decide +kernel, rfl⟩) w_f_RX7_18 rfl (fun v3 => ?_)
    refine J_iload rfl (show Dc Y_X7_hasRing 46 (.iload 4) 2 48 from ⟨by decide +kernel, rfl⟩) ?_
    refine J_iald (show Dc Y_X7_hasRing 48 (.iaload) 1 49 from ⟨by decide +kernel, rfl⟩) (fun v4 => ?_)
    refine J_aload_n rfl rfl (show Dc Y_X7_hasRing 49 (.aload_n 0) 1 50 from ⟨by decide +kernel, rfl⟩) ?_
    refine J_getR (show Dc Y_X7_hasRing 50 (.getfield 21) 3 53 from ⟨by decide +kernel, rfl⟩) w_f_RX7_21 rfl (fun v5 => ?_)
    refine J_iload_n rfl rfl (show Dc Y_X7_hasRing 53 (.iload_n 3) 1 54 from ⟨by decide +kernel, rfl⟩) ?_
    refine J_iconst (1 : Int32) rfl (show Dc Y_X7_hasRing 54 (.iconst 1) 1 55 from ⟨by decide +kernel, rfl⟩) ?_
    refine J_isub (show Dc Y_X7_hasRing 55 (.isub) 1 56 from ⟨by decide +kernel, rfl⟩) ?_
    refine J_iald (show Dc Y_X7_hasRing 56 (.iaload) 1 57 from ⟨by decide +kernel, rfl⟩) (fun v6 => ?_)
    refine J_iand (show Dc Y_X7_hasRing 57 (.iand) 1 58 from ⟨by decide +kernel, rfl⟩) ?_
    refine J_if_eq (tg := 68) (show Dc Y_X7_hasRing 58 (.ifCond .eq 10) 3 61 from ⟨by decide +kernel, rfl⟩) (by decide) (fun h => ?_) (fun h => ?_)
    · refine J_iconst (0 : Int32) rfl (show Dc Y_X7_hasRing 68 (.iconst 0) 1 69 from ⟨by decide +kernel, rfl⟩) ?_
      exact j_X7_hasRing_69 N x0 x1 x2 x3 x4 v1 x3 v2 (0 : Int32) g h0 hL11 hL28
    · refine J_iconst (1 : Int32) rfl (show Dc Y_X7_hasRing 61 (.iconst 1) 1 62 from ⟨by decide +kernel, rfl⟩) ?_
      refine J_iload rfl (show Dc Y_X7_hasRing 62 (.iload 4) 2 64 from ⟨by decide +kernel, rfl⟩) ?_
      refine J_ishl (show Dc Y_X7_hasRing 64 (.ishl) 1 65 from ⟨by decide +kernel, rfl⟩) ?_
      refine J_goto (tg := 69) (show Dc Y_X7_hasRing 65 (.goto 4) 3 68 from ⟨by decide +kernel, rfl⟩) (by decide) ?_
      exact j_X7_hasRing_69 N x0 x1 x2 x3 x4 v1 x3 v2 ((1 : Int32) <<< (x4 &&& 31)) g h0 hL11 hL28

theorem j_X7_hasRing_106 {X : ZX} (N : Nat)  (s0 : Int32)  (g : ZS) {K : (Int32 × ZS) → Prop} (h0 : ∀ v g, K (v, g) → xK X (some (.int v)) g) : J Y_X7_hasRing X 0 0 106 [none, none, none, none, none] [.int s0] g (f_X7_hasRing_106 N s0 g) K := by
  unfold f_X7_hasRing_106
  exact J_retZ (show Dc Y_X7_hasRing 106 (.ireturn) 1 107 from ⟨by decide +kernel, rfl⟩) rfl (h0 _ _) (by decide) (by decide)

theorem j_X7_hasRing_11 {X : ZX} (N : Nat) (x0 : Nat) (x1 : Int32) (x2 : Int32) (x3 : Int32)   (g : ZS) {K : ((Int32 × ZS) ⊕ (Int32 × ZS)) → Prop} (h0 : ∀ v g, K (.inr (v, g)) → xK X (some (.int v)) g) (hL11 : ∀ s, K (.inl s) → zG Y_X7_hasRing X 0 0 11 [some (.ref x0), some (.int x1), some (.int x2), some (.int s.1), none] [] s.2) : J Y_X7_hasRing X 0 0 11 [some (.ref x0), some (.int x1), some (.int x2), some (.int x3), none] [] g (f_X7_hasRing_11 N x0 x1 x2 x3 g) K := by
  unfold f_X7_hasRing_11
  refine J_iload_n rfl rfl (show Dc Y_X7_hasRing 11 (.iload_n 3) 1 12 from ⟨by decide +kernel, rfl⟩) ?_
  refine J_iload_n rfl rfl (show Dc Y_X7_hasRing 12 (.iload_n 2) 1 13 from ⟨by decide +kernel, rfl⟩) ?_
  refine J_icmp_ge (tg := 83) (show Dc Y_X7_hasRing 13 (.if_icmp .ge 70) 3 16 from ⟨by decide +kernel, rfl⟩) (by decide) (fun h => ?_) (fun h => ?_)
  · refine J_map (f := Sum.inr) (fun _ h => h) ?_
    refine J_aload_n rfl rfl (show Dc Y_X7_hasRing 83 (.aload_n 0) 1 84 from ⟨by decide +kernel, rfl⟩) ?_
    refine J_getR (show Dc Y_X7_hasRing 84 (.getfield 18) 3 87 from ⟨by decide +kernel, rfl⟩) w_f_RX7_18 rfl (fun v1 => ?_)
    refine J_iload_n rfl rfl (show Dc Y_X7_hasRing 87 (.iload_n 1) 1 88 from ⟨by decide +kernel, rfl⟩) ?_
    refine J_iald (show Dc Y_X7_hasRing 88 (.iaload) 1 89 from ⟨by decide +kernel, rfl⟩) (fun v2 => ?_)
    refine J_aload_n rfl rfl (show Dc Y_X7_hasRing 89 (.aload_n 0) 1 90 from ⟨by decide +kernel, rfl⟩) ?_
    refine J_getR (show Dc Y_X7_hasRing 90 (.getfield 21) 3 93 from ⟨by decide +kernel, rfl⟩) w_f_RX7_21 rfl (fun v3 => ?_)
    refine J_iload_n rfl rfl (show Dc Y_X7_hasRing 93 (.iload_n 2) 1 94 from ⟨by decide +kernel, rfl⟩) ?_
    refine J_iconst (1 : Int32) rfl (show Dc Y_X7_hasRing 94 (.iconst 1) 1 95 from ⟨by decide +kernel, rfl⟩) ?_
    refine J_isub (show Dc Y_X7_hasRing 95 (.isub) 1 96 from ⟨by decide +kernel, rfl⟩) ?_
    refine J_iald (show Dc Y_X7_hasRing 96 (.iaload) 1 97 from ⟨by decide +kernel, rfl⟩) (fun v4 => ?_)
    refine J_iand (show Dc Y_X7_hasRing 97 (.iand) 1 98 from ⟨by decide +kernel, rfl⟩) ?_
    refine J_if_eq (tg := 105) (show Dc Y_X7_hasRing 98 (.ifCond .eq 7) 3 101 from ⟨by decide +kernel, rfl⟩) (by decide) (fun h => ?_) (fun h => ?_)
    · refine J_iconst (0 : Int32) rfl (show Dc Y_X7_hasRing 105 (.iconst 0) 1 106 from ⟨by decide +kernel, rfl⟩) ?_
      refine J_mask [false, false, false, false, false] ?_
      exact j_X7_hasRing_106 (K := fun o => K (.inr o)) N (0 : Int32) g h0
    · refine J_iconst (1 : Int32) rfl (show Dc Y_X7_hasRing 101 (.iconst 1) 1 102 from ⟨by decide +kernel, rfl⟩) ?_
      refine J_goto (tg := 106) (show Dc Y_X7_hasRing 102 (.goto 4) 3 105 from ⟨by decide +kernel, rfl⟩) (by decide) ?_
      refine J_mask [false, false, false, false, false] ?_
      exact j_X7_hasRing_106 (K := fun o => K (.inr o)) N (1 : Int32) g h0
  · refine J_aload_n rfl rfl (show Dc Y_X7_hasRing 16 (.aload_n 0) 1 17 from ⟨by decide +kernel, rfl⟩) ?_
    refine J_getR (show Dc Y_X7_hasRing 17 (.getfield 21) 3 20 from ⟨by decide +kernel, rfl⟩) w_f_RX7_21 rfl (fun v5 => ?_)
    refine J_iload_n rfl rfl (show Dc Y_X7_hasRing 20 (.iload_n 3) 1 21 from ⟨by decide +kernel, rfl⟩) ?_
    refine J_iconst (0 : Int32) rfl (show Dc Y_X7_hasRing 21 (.iconst 0) 1 22 from ⟨by decide +kernel, rfl⟩) ?_
    refine J_iast (show Dc Y_X7_hasRing 22 (.iastore) 1 23 from ⟨by decide +kernel, rfl⟩) (fun g6 => ?_)
    refine J_iload_n rfl rfl (show Dc Y_X7_hasRing 23 (.iload_n 1) 1 24 from ⟨by decide +kernel, rfl⟩) ?_
    refine J_iconst (1 : Int32) rfl (show Dc Y_X7_hasRing 24 (.iconst 1) 1 25 from ⟨by decide +kernel, rfl⟩) ?_
    refine J_iadd (show Dc Y_X7_hasRing 25 (.iadd) 1 26 from ⟨by decide +kernel, rfl⟩) ?_
    refine J_istore [some (.ref x0), some (.int x1), some (.int x2), some (.int x3), some (.int (x1 + (1 : Int32)))] (show Dc Y_X7_hasRing 26 (.istore 4) 2 28 from ⟨by decide +kernel, rfl⟩) (by decide) rfl rfl ?_
    exact J_loop (X := X) (K := K) (uc := fun _ => 0) (us := fun _ => 0) (lf := fun s => [some (.ref x0), some (.int x1), some (.int x2), some (.int x3), some (.int s.1)]) (gf := fun s => s.2) (fun s => j_X7_hasRing_28 (K := zKl Y_X7_hasRing X 28 (fun _ => 0) (fun _ => 0) (fun s => [some (.ref x0), some (.int x1), some (.int x2), some (.int x3), some (.int s.1)]) (fun s => s.2) K) N x0 x1 x2 x3 s.1 s.2 h0 hL11 (fun s h => h)) N (x1 + (1 : Int32), g6)

theorem j_X7_hasRing {X : ZX} (N : Nat) (x0 : Nat) (x1 : Int32) (x2 : Int32)   (g : ZS) {K : (Int32 × ZS) → Prop} (h0 : ∀ v g, K (v, g) → xK X (some (.int v)) g) : J Y_X7_hasRing X 0 0 0 [some (.ref x0), some (.int x1), some (.int x2), none, none] [] g (f_X7_hasRing N x0 x1 x2 g) K := by
  unfold f_X7_hasRing
  refine J_aload_n rfl rfl (show Dc Y_X7_hasRing 0 (.aload_n 0) 1 1 from ⟨by decide +kernel, rfl⟩) ?_
  refine J_getR (show Dc Y_X7_hasRing 1 (.getfield 21) 3 4 from ⟨by decide +kernel, rfl⟩) w_f_RX7_21 rfl (fun v1 => ?_)
  refine J_iconst (0 : Int32) rfl (show Dc Y_X7_hasRing 4 (.iconst 0) 1 5 from ⟨by decide +kernel, rfl⟩) ?_
  refine J_iconst (1 : Int32) rfl (show Dc Y_X7_hasRing 5 (.iconst 1) 1 6 from ⟨by decide +kernel, rfl⟩) ?_
  refine J_iload_n rfl rfl (show Dc Y_X7_hasRing 6 (.iload_n 1) 1 7 from ⟨by decide +kernel, rfl⟩) ?_
  refine J_ishl (show Dc Y_X7_hasRing 7 (.ishl) 1 8 from ⟨by decide +kernel, rfl⟩) ?_
  refine J_iast (show Dc Y_X7_hasRing 8 (.iastore) 1 9 from ⟨by decide +kernel, rfl⟩) (fun g2 => ?_)
  refine J_iconst (1 : Int32) rfl (show Dc Y_X7_hasRing 9 (.iconst 1) 1 10 from ⟨by decide +kernel, rfl⟩) ?_
  refine J_istore_n [some (.ref x0), some (.int x1), some (.int x2), some (.int (1 : Int32)), none] (show Dc Y_X7_hasRing 10 (.istore_n 3) 1 11 from ⟨by decide +kernel, rfl⟩) rfl (by decide) rfl rfl ?_
  exact J_loop (X := X) (K := K) (uc := fun _ => 0) (us := fun _ => 0) (lf := fun s => [some (.ref x0), some (.int x1), some (.int x2), some (.int s.1), none]) (gf := fun s => s.2) (fun s => j_X7_hasRing_11 (K := zKl Y_X7_hasRing X 11 (fun _ => 0) (fun _ => 0) (fun s => [some (.ref x0), some (.int x1), some (.int x2), some (.int s.1), none]) (fun s => s.2) K) N x0 x1 x2 s.1 s.2 h0 (fun s h => h)) N ((1 : Int32), g2)

theorem c_X7_hasRing {l : Launch} {D : ZD} {B0 : Nat} (N : Nat) (x0 : Nat) (x1 : Int32) (x2 : Int32) (g : ZS) : ∀ r, f_X7_hasRing N x0 x1 x2 g = some r → zCt l D B0 yX7_hasRing Y_X7_hasRing [.ref x0, .int x1, .int x2] g (some (.int r.1)) r.2 :=
  zCt_ofF (vo := fun r => some (.int r.1)) (so := fun r => r.2) (by decide +kernel) rfl (fun h => by cases h) rfl (Nat.le_of_ble_eq_true rfl) (fun X => j_X7_hasRing N x0 x1 x2 g (fun _ _ h => h))

theorem j_X7_tellRing_14 {X : ZX} (N : Nat) (x0 : Nat) (x3 : Nat) (x4 : Int32) (x5 : Int32)   (g : ZS) {K : ((Int32 × Int32 × ZS) ⊕ ZS) → Prop} (h0 : ∀ g, K (.inr g) → xK X none g) (hL14 : ∀ s, K (.inl s) → zG Y_X7_tellRing X 0 0 14 [some (.ref x0), none, none, some (.ref x3), some (.int s.1), some (.int s.2.1)] [] s.2.2) : J Y_X7_tellRing X 0 0 14 [some (.ref x0), none, none, some (.ref x3), some (.int x4), some (.int x5)] [] g (f_X7_tellRing_14 N x0 x3 x4 x5 g) K := by
  unfold f_X7_tellRing_14
  refine J_iload rfl (show Dc Y_X7_tellRing 14 (.iload 5) 2 16 from ⟨by decide +kernel, rfl⟩) ?_
  refine J_iconst (1 : Int32) rfl (show Dc Y_X7_tellRing 16 (.iconst 1) 1 17 from ⟨by decide +kernel, rfl⟩) ?_
  refine J_icmp_lt (tg := 57) (show Dc Y_X7_tellRing 17 (.if_icmp .lt 40) 3 20 from ⟨by decide +kernel, rfl⟩) (by decide) (fun h => ?_) (fun h => ?_)
  · refine J_map (f := Sum.inr) (fun _ h => h) ?_
    exact J_ret0 (show Dc Y_X7_tellRing 57 (.return_) 1 58 from ⟨by decide +kernel, rfl⟩) rfl (h0 _) (by decide) (by decide)
  · refine J_iconst (0 : Int32) rfl (show Dc Y_X7_tellRing 20 (.iconst 0) 1 21 from ⟨by decide +kernel, rfl⟩) ?_
    refine J_aload_n rfl rfl (show Dc Y_X7_tellRing 21 (.aload_n 0) 1 22 from ⟨by decide +kernel, rfl⟩) ?_
    refine J_getR (show Dc Y_X7_tellRing 22 (.getfield 18) 3 25 from ⟨by decide +kernel, rfl⟩) w_f_RX7_18 rfl (fun v1 => ?_)
    refine J_iload rfl (show Dc Y_X7_tellRing 25 (.iload 4) 2 27 from ⟨by decide +kernel, rfl⟩) ?_
    refine J_iald (show Dc Y_X7_tellRing 27 (.iaload) 1 28 from ⟨by decide +kernel, rfl⟩) (fun v2 => ?_)
    refine J_aload_n rfl rfl (show Dc Y_X7_tellRing 28 (.aload_n 0) 1 29 from ⟨by decide +kernel, rfl⟩) ?_
    refine J_getR (show Dc Y_X7_tellRing 29 (.getfield 21) 3 32 from ⟨by decide +kernel, rfl⟩) w_f_RX7_21 rfl (fun v3 => ?_)
    refine J_iload rfl (show Dc Y_X7_tellRing 32 (.iload 5) 2 34 from ⟨by decide +kernel, rfl⟩) ?_
    refine J_iald (show Dc Y_X7_tellRing 34 (.iaload) 1 35 from ⟨by decide +kernel, rfl⟩) (fun v4 => ?_)
    refine J_iand (show Dc Y_X7_tellRing 35 (.iand) 1 36 from ⟨by decide +kernel, rfl⟩) ?_
    refine J_callSNi (host := "ParrotsLast") (fun r => r) (fun _ => g) (show Dc Y_X7_tellRing 36 (.invokestatic 37) 3 39 from ⟨by decide +kernel, rfl⟩) (by decide +kernel) w_st_X11_lowestOf w_cw_X11_lowestOf (c_X11_lowestOf N (v2 &&& v4) g) rfl rfl (by decide) (Nat.le_of_ble_eq_true rfl) (by decide) (by decide) (fun v5 => ?_)
    refine J_callSi (fun r => r) (fun _ => g) (show Dc Y_X7_tellRing 39 (.invokestatic 41) 3 42 from ⟨by decide +kernel, rfl⟩) w_m_RX7_41 w_st_J9_max_7cf53 w_cw_J9_max_7cf53 (c_J9_max_7cf53 (0 : Int32) v5 g) rfl rfl (by decide) (Nat.le_of_ble_eq_true rfl) (by decide) (by decide) (fun v6 => ?_)
    refine J_istore [some (.ref x0), none, none, some (.ref x3), some (.int v6), some (.int x5)] (show Dc Y_X7_tellRing 42 (.istore 4) 2 44 from ⟨by decide +kernel, rfl⟩) (by decide) rfl rfl ?_
    refine J_aload_n rfl rfl (show Dc Y_X7_tellRing 44 (.aload_n 3) 1 45 from ⟨by decide +kernel, rfl⟩) ?_
    refine J_iload rfl (show Dc Y_X7_tellRing 45 (.iload 4) 2 47 from ⟨by decide +kernel, rfl⟩) ?_
    refine J_i2l (show Dc Y_X7_tellRing 47 (.i2l) 1 48 from ⟨by decide +kernel, rfl⟩) ?_
    refine J_callVv (fun r => r) (show Dc Y_X7_tellRing 48 (.invokevirtual 47) 3 51 from ⟨by decide +kernel, rfl⟩) w_m_RX7_47 w_in_X9_add rfl w_se_X9_add w_cw_X9_add (c_X9_add x3 v6.toInt64 g) rfl rfl (by decide) (Nat.le_of_ble_eq_true rfl) (by decide) (by decide) (fun g7 => ?_)
    refine J_iinc (-1 : Int32) [some (.ref x0), none, none, some (.ref x3), some (.int v6), some (.int (x5 + (-1 : Int32)))] (show Dc Y_X7_tellRing 51 (.iinc 5 (-1)) 3 54 from ⟨by decide +kernel, rfl⟩) rfl rfl (by decide) rfl rfl ?_
    refine J_goto (tg := 14) (show Dc Y_X7_tellRing 54 (.goto (-40)) 3 57 from ⟨by decide +kernel, rfl⟩) (by decide) ?_
    exact J_leaf (fun h => hL14 (v6, x5 + (-1 : Int32), g7) h)

theorem j_X7_tellRing {X : ZX} (N : Nat) (x0 : Nat) (x1 : Int32) (x2 : Int32) (x3 : Nat)   (g : ZS) {K : ZS → Prop} (h0 : ∀ g, K g → xK X none g) : J Y_X7_tellRing X 0 0 0 [some (.ref x0), some (.int x1), some (.int x2), some (.ref x3), none, none] [] g (f_X7_tellRing N x0 x1 x2 x3 g) K := by
  unfold f_X7_tellRing
  refine J_aload_n rfl rfl (show Dc Y_X7_tellRing 0 (.aload_n 3) 1 1 from ⟨by decide +kernel, rfl⟩) ?_
  refine J_iload_n rfl rfl (show Dc Y_X7_tellRing 1 (.iload_n 1) 1 2 from ⟨by decide +kernel, rfl⟩) ?_
  refine J_i2l (show Dc Y_X7_tellRing 2 (.i2l) 1 3 from ⟨by decide +kernel, rfl⟩) ?_
  refine J_callVv (fun r => r) (show Dc Y_X7_tellRing 3 (.invokevirtual 31) 3 6 from ⟨by decide +kernel, rfl⟩) w_m_RX7_31 w_in_X9_only rfl w_se_X9_only w_cw_X9_only (c_X9_only x3 x1.toInt64 g) rfl rfl (by decide) (Nat.le_of_ble_eq_true rfl) (by decide) (by decide) (fun g1 => ?_)
  refine J_iload_n rfl rfl (show Dc Y_X7_tellRing 6 (.iload_n 1) 1 7 from ⟨by decide +kernel, rfl⟩) ?_
  refine J_istore [some (.ref x0), some (.int x1), some (.int x2), some (.ref x3), some (.int x1), none] (show Dc Y_X7_tellRing 7 (.istore 4) 2 9 from ⟨by decide +kernel, rfl⟩) (by decide) rfl rfl ?_
  refine J_iload_n rfl rfl (show Dc Y_X7_tellRing 9 (.iload_n 2) 1 10 from ⟨by decide +kernel, rfl⟩) ?_
  refine J_iconst (1 : Int32) rfl (show Dc Y_X7_tellRing 10 (.iconst 1) 1 11 from ⟨by decide +kernel, rfl⟩) ?_
  refine J_isub (show Dc Y_X7_tellRing 11 (.isub) 1 12 from ⟨by decide +kernel, rfl⟩) ?_
  refine J_istore [some (.ref x0), some (.int x1), some (.int x2), some (.ref x3), some (.int x1), some (.int (x2 - (1 : Int32)))] (show Dc Y_X7_tellRing 12 (.istore 5) 2 14 from ⟨by decide +kernel, rfl⟩) (by decide) rfl rfl ?_
  refine J_mask [true, false, false, true, true, true] ?_
  exact J_loop (X := X) (K := K) (uc := fun _ => 0) (us := fun _ => 0) (lf := fun s => [some (.ref x0), none, none, some (.ref x3), some (.int s.1), some (.int s.2.1)]) (gf := fun s => s.2.2) (fun s => j_X7_tellRing_14 (K := zKl Y_X7_tellRing X 14 (fun _ => 0) (fun _ => 0) (fun s => [some (.ref x0), none, none, some (.ref x3), some (.int s.1), some (.int s.2.1)]) (fun s => s.2.2) K) N x0 x3 s.1 s.2.1 s.2.2 h0 (fun s h => h)) N (x1, x2 - (1 : Int32), g1)

theorem c_X7_tellRing {l : Launch} {D : ZD} {B0 : Nat} (N : Nat) (x0 : Nat) (x1 : Int32) (x2 : Int32) (x3 : Nat) (g : ZS) : ∀ r, f_X7_tellRing N x0 x1 x2 x3 g = some r → zCt l D B0 yX7_tellRing Y_X7_tellRing [.ref x0, .int x1, .int x2, .ref x3] g none r :=
  zCt_ofF (vo := fun _ => none) (so := fun r => r) (by decide +kernel) rfl (fun h => by cases h) rfl (Nat.le_of_ble_eq_true rfl) (fun X => j_X7_tellRing N x0 x1 x2 x3 g (fun _ h => h))

theorem j_X11_clash_17 {X : ZX} (N : Nat) (x0 : Nat) (x1 : Int32) (x2 : Int32)   (g : ZS) {K : ((Int32 × ZS) ⊕ ((Int32 × ZS) ⊕ (Int32 × ZS))) → Prop} (h0 : ∀ v g, K (.inr (.inr (v, g))) → xK X (some (.int v)) g) (hL9 : ∀ s, K (.inr (.inl s)) → zG Y_X11_clash X 0 0 9 [some (.ref x0), some (.int s.1), none] [] s.2) (hL17 : ∀ s, K (.inl s) → zG Y_X11_clash X 0 0 17 [some (.ref x0), some (.int x1), some (.int s.1)] [] s.2) : J Y_X11_clash X 0 0 17 [some (.ref x0), some (.int x1), some (.int x2)] [] g (f_X11_clash_17 N x0 x1 x2 g) K := by
  unfold f_X11_clash_17
  refine J_iload_n rfl rfl (show Dc Y_X11_clash 17 (.iload_n 2) 1 18 from ⟨by decide +kernel, rfl⟩) ?_
  refine J_bipush (8 : Int32) rfl (show Dc Y_X11_clash 18 (.bipush 8) 2 20 from ⟨by decide +kernel, rfl⟩) ?_
  refine J_icmp_ge (tg := 56) (show Dc Y_X11_clash 20 (.if_icmp .ge 36) 3 23 from ⟨by decide +kernel, rfl⟩) (by decide) (fun h => ?_) (fun h => ?_)
  · refine J_map (f := Sum.inr) (fun _ h => h) ?_
    refine J_iinc (1 : Int32) [some (.ref x0), some (.int (x1 + (1 : Int32))), some (.int x2)] (show Dc Y_X11_clash 56 (.iinc 1 1) 3 59 from ⟨by decide +kernel, rfl⟩) rfl rfl (by decide) rfl rfl ?_
    refine J_goto (tg := 9) (show Dc Y_X11_clash 59 (.goto (-50)) 3 62 from ⟨by decide +kernel, rfl⟩) (by decide) ?_
    refine J_mask [true, true, false] ?_
    exact J_leaf (fun h => hL9 (x1 + (1 : Int32), g) h)
  · refine J_aload_n rfl rfl (show Dc Y_X11_clash 23 (.aload_n 0) 1 24 from ⟨by decide +kernel, rfl⟩) ?_
    refine J_getR (show Dc Y_X11_clash 24 (.getfield 89) 3 27 from ⟨by decide +kernel, rfl⟩) w_f_RX11_89 rfl (fun v1 => ?_)
    refine J_iload_n rfl rfl (show Dc Y_X11_clash 27 (.iload_n 2) 1 28 from ⟨by decide +kernel, rfl⟩) ?_
    refine J_iload_n rfl rfl (show Dc Y_X11_clash 28 (.iload_n 1) 1 29 from ⟨by decide +kernel, rfl⟩) ?_
    refine J_callVi (fun r => r.1) (fun r => r.2) (show Dc Y_X11_clash 29 (.invokevirtual 396) 3 32 from ⟨by decide +kernel, rfl⟩) w_m_RX11_396 w_in_X7_hasRing rfl w_se_X7_hasRing w_cw_X7_hasRing (c_X7_hasRing N v1 x2 x1 g) rfl rfl (by decide) (Nat.le_of_ble_eq_true rfl) (by decide) (by decide) (fun r2 => ?_)
    refine J_if_eq (tg := 50) (show Dc Y_X11_clash 32 (.ifCond .eq 18) 3 35 from ⟨by decide +kernel, rfl⟩) (by decide) (fun h => ?_) (fun h => ?_)
    · refine J_iinc (1 : Int32) [some (.ref x0), some (.int x1), some (.int (x2 + (1 : Int32)))] (show Dc Y_X11_clash 50 (.iinc 2 1) 3 53 from ⟨by decide +kernel, rfl⟩) rfl rfl (by decide) rfl rfl ?_
      refine J_goto (tg := 17) (show Dc Y_X11_clash 53 (.goto (-36)) 3 56 from ⟨by decide +kernel, rfl⟩) (by decide) ?_
      exact J_leaf (fun h => hL17 (x2 + (1 : Int32), r2.2) h)
    · refine J_map (f := Sum.inr) (fun _ h => h) ?_
      refine J_map (f := Sum.inr) (fun _ h => h) ?_
      refine J_aload_n rfl rfl (show Dc Y_X11_clash 35 (.aload_n 0) 1 36 from ⟨by decide +kernel, rfl⟩) ?_
      refine J_getR (show Dc Y_X11_clash 36 (.getfield 89) 3 39 from ⟨by decide +kernel, rfl⟩) w_f_RX11_89 rfl (fun v3 => ?_)
      refine J_iload_n rfl rfl (show Dc Y_X11_clash 39 (.iload_n 2) 1 40 from ⟨by decide +kernel, rfl⟩) ?_
      refine J_iload_n rfl rfl (show Dc Y_X11_clash 40 (.iload_n 1) 1 41 from ⟨by decide +kernel, rfl⟩) ?_
      refine J_aload_n rfl rfl (show Dc Y_X11_clash 41 (.aload_n 0) 1 42 from ⟨by decide +kernel, rfl⟩) ?_
      refine J_getR (show Dc Y_X11_clash 42 (.getfield 19) 3 45 from ⟨by decide +kernel, rfl⟩) w_f_RX11_19 rfl (fun v4 => ?_)
      refine J_callVv (fun r => r) (show Dc Y_X11_clash 45 (.invokevirtual 399) 3 48 from ⟨by decide +kernel, rfl⟩) w_m_RX11_399 w_in_X7_tellRing rfl w_se_X7_tellRing w_cw_X7_tellRing (c_X7_tellRing N v3 x2 x1 v4 r2.2) rfl rfl (by decide) (Nat.le_of_ble_eq_true rfl) (by decide) (by decide) (fun g5 => ?_)
      refine J_iload_n rfl rfl (show Dc Y_X11_clash 48 (.iload_n 1) 1 49 from ⟨by decide +kernel, rfl⟩) ?_
      exact J_reti (show Dc Y_X11_clash 49 (.ireturn) 1 50 from ⟨by decide +kernel, rfl⟩) rfl (h0 _ _) (by decide) (by decide)

theorem j_X11_clash_9 {X : ZX} (N : Nat) (x0 : Nat) (x1 : Int32)   (g : ZS) {K : ((Int32 × ZS) ⊕ (Int32 × ZS)) → Prop} (h0 : ∀ v g, K (.inr (v, g)) → xK X (some (.int v)) g) (hL9 : ∀ s, K (.inl s) → zG Y_X11_clash X 0 0 9 [some (.ref x0), some (.int s.1), none] [] s.2) : J Y_X11_clash X 0 0 9 [some (.ref x0), some (.int x1), none] [] g (f_X11_clash_9 N x0 x1 g) K := by
  unfold f_X11_clash_9
  refine J_iload_n rfl rfl (show Dc Y_X11_clash 9 (.iload_n 1) 1 10 from ⟨by decide +kernel, rfl⟩) ?_
  refine J_bipush (8 : Int32) rfl (show Dc Y_X11_clash 10 (.bipush 8) 2 12 from ⟨by decide +kernel, rfl⟩) ?_
  refine J_icmp_gt (tg := 62) (show Dc Y_X11_clash 12 (.if_icmp .gt 50) 3 15 from ⟨by decide +kernel, rfl⟩) (by decide) (fun h => ?_) (fun h => ?_)
  · refine J_map (f := Sum.inr) (fun _ h => h) ?_
    refine J_bipush (-2 : Int32) rfl (show Dc Y_X11_clash 62 (.bipush (-2)) 2 64 from ⟨by decide +kernel, rfl⟩) ?_
    exact J_reti (show Dc Y_X11_clash 64 (.ireturn) 1 65 from ⟨by decide +kernel, rfl⟩) rfl (h0 _ _) (by decide) (by decide)
  · refine J_iconst (0 : Int32) rfl (show Dc Y_X11_clash 15 (.iconst 0) 1 16 from ⟨by decide +kernel, rfl⟩) ?_
    refine J_istore_n [some (.ref x0), some (.int x1), some (.int (0 : Int32))] (show Dc Y_X11_clash 16 (.istore_n 2) 1 17 from ⟨by decide +kernel, rfl⟩) rfl (by decide) rfl rfl ?_
    exact J_loop (X := X) (K := K) (uc := fun _ => 0) (us := fun _ => 0) (lf := fun s => [some (.ref x0), some (.int x1), some (.int s.1)]) (gf := fun s => s.2) (fun s => j_X11_clash_17 (K := zKl Y_X11_clash X 17 (fun _ => 0) (fun _ => 0) (fun s => [some (.ref x0), some (.int x1), some (.int s.1)]) (fun s => s.2) K) N x0 x1 s.1 s.2 h0 hL9 (fun s h => h)) N ((0 : Int32), g)

theorem j_X11_clash {X : ZX} (N : Nat) (x0 : Nat)   (g : ZS) {K : (Int32 × ZS) → Prop} (h0 : ∀ v g, K (v, g) → xK X (some (.int v)) g) : J Y_X11_clash X 0 0 0 [some (.ref x0), none, none] [] g (f_X11_clash N x0 g) K := by
  unfold f_X11_clash
  refine J_aload_n rfl rfl (show Dc Y_X11_clash 0 (.aload_n 0) 1 1 from ⟨by decide +kernel, rfl⟩) ?_
  refine J_getR (show Dc Y_X11_clash 1 (.getfield 89) 3 4 from ⟨by decide +kernel, rfl⟩) w_f_RX11_89 rfl (fun v1 => ?_)
  refine J_callVv (fun r => r) (show Dc Y_X11_clash 4 (.invokevirtual 393) 3 7 from ⟨by decide +kernel, rfl⟩) w_m_RX11_393 w_in_X7_gatherNexts rfl w_se_X7_gatherNexts w_cw_X7_gatherNexts (c_X7_gatherNexts N v1 g) rfl rfl (by decide) (Nat.le_of_ble_eq_true rfl) (by decide) (by decide) (fun g2 => ?_)
  refine J_iconst (2 : Int32) rfl (show Dc Y_X11_clash 7 (.iconst 2) 1 8 from ⟨by decide +kernel, rfl⟩) ?_
  refine J_istore_n [some (.ref x0), some (.int (2 : Int32)), none] (show Dc Y_X11_clash 8 (.istore_n 1) 1 9 from ⟨by decide +kernel, rfl⟩) rfl (by decide) rfl rfl ?_
  exact J_loop (X := X) (K := K) (uc := fun _ => 0) (us := fun _ => 0) (lf := fun s => [some (.ref x0), some (.int s.1), none]) (gf := fun s => s.2) (fun s => j_X11_clash_9 (K := zKl Y_X11_clash X 9 (fun _ => 0) (fun _ => 0) (fun s => [some (.ref x0), some (.int s.1), none]) (fun s => s.2) K) N x0 s.1 s.2 h0 (fun s h => h)) N ((2 : Int32), g2)

theorem c_X11_clash {l : Launch} {D : ZD} {B0 : Nat} (N : Nat) (x0 : Nat) (g : ZS) : ∀ r, f_X11_clash N x0 g = some r → zCt l D B0 yX11_clash Y_X11_clash [.ref x0] g (some (.int r.1)) r.2 :=
  zCt_ofF (vo := fun r => some (.int r.1)) (so := fun r => r.2) (by decide +kernel) rfl (fun h => by cases h) rfl (Nat.le_of_ble_eq_true rfl) (fun X => j_X11_clash N x0 g (fun _ _ h => h))

theorem j_X12_layBehind_61 {X : ZX} (N : Nat) (x0 : Nat) (x1 : Int32) (x2 : Int32)   (g : ZS) {K : ((Int32 × ZS) ⊕ ZS) → Prop} (h0 : ∀ g, K (.inr g) → xK X none g) (hL23 : ∀ s, K (.inl s) → zG Y_X12_layBehind X 0 0 23 [some (.ref x0), some (.int x1), some (.int s.1)] [] s.2) : J Y_X12_layBehind X 0 0 61 [some (.ref x0), some (.int x1), some (.int x2)] [] g (f_X12_layBehind_61 N x0 x1 x2 g) K := by
  unfold f_X12_layBehind_61
  refine J_iinc (1 : Int32) [some (.ref x0), some (.int x1), some (.int (x2 + (1 : Int32)))] (show Dc Y_X12_layBehind 61 (.iinc 2 1) 3 64 from ⟨by decide +kernel, rfl⟩) rfl rfl (by decide) rfl rfl ?_
  refine J_goto (tg := 23) (show Dc Y_X12_layBehind 64 (.goto (-41)) 3 67 from ⟨by decide +kernel, rfl⟩) (by decide) ?_
  exact J_leaf (fun h => hL23 (x2 + (1 : Int32), g) h)

theorem j_X12_layBehind_23 {X : ZX} (N : Nat) (x0 : Nat) (x1 : Int32) (x2 : Int32)   (g : ZS) {K : ((Int32 × ZS) ⊕ ZS) → Prop} (h0 : ∀ g, K (.inr g) → xK X none g) (hL23 : ∀ s, K (.inl s) → zG Y_X12_layBehind X 0 0 23 [some (.ref x0), some (.int x1), some (.int s.1)] [] s.2) : J Y_X12_layBehind X 0 0 23 [some (.ref x0), some (.int x1), some (.int x2)] [] g (f_X12_layBehind_23 N x0 x1 x2 g) K := by
  unfold f_X12_layBehind_23
  refine J_iload_n rfl rfl (show Dc Y_X12_layBehind 23 (.iload_n 2) 1 24 from ⟨by decide +kernel, rfl⟩) ?_
  refine J_aload_n rfl rfl (show Dc Y_X12_layBehind 24 (.aload_n 0) 1 25 from ⟨by decide +kernel, rfl⟩) ?_
  refine J_getI (show Dc Y_X12_layBehind 25 (.getfield 351) 3 28 from ⟨by decide +kernel, rfl⟩) w_f_RX12_351 rfl (fun v1 => ?_)
  refine J_icmp_ge (tg := 67) (show Dc Y_X12_layBehind 28 (.if_icmp .ge 39) 3 31 from ⟨by decide +kernel, rfl⟩) (by decide) (fun h => ?_) (fun h => ?_)
  · refine J_map (f := Sum.inr) (fun _ h => h) ?_
    exact J_ret0 (show Dc Y_X12_layBehind 67 (.return_) 1 68 from ⟨by decide +kernel, rfl⟩) rfl (h0 _) (by decide) (by decide)
  · refine J_iload_n rfl rfl (show Dc Y_X12_layBehind 31 (.iload_n 1) 1 32 from ⟨by decide +kernel, rfl⟩) ?_
    refine J_iload_n rfl rfl (show Dc Y_X12_layBehind 32 (.iload_n 2) 1 33 from ⟨by decide +kernel, rfl⟩) ?_
    refine J_callSi (fun r => r) (fun _ => g) (show Dc Y_X12_layBehind 33 (.invokestatic 328) 3 36 from ⟨by decide +kernel, rfl⟩) w_m_RX12_328 w_st_X12_has w_cw_X12_has (c_X12_has x1 x2 g) rfl rfl (by decide) (Nat.le_of_ble_eq_true rfl) (by decide) (by decide) (fun v2 => ?_)
    refine J_if_ne (tg := 61) (show Dc Y_X12_layBehind 36 (.ifCond .ne 25) 3 39 from ⟨by decide +kernel, rfl⟩) (by decide) (fun h => ?_) (fun h => ?_)
    · exact j_X12_layBehind_61 N x0 x1 x2 g h0 hL23
    · refine J_aload_n rfl rfl (show Dc Y_X12_layBehind 39 (.aload_n 0) 1 40 from ⟨by decide +kernel, rfl⟩) ?_
      refine J_getR (show Dc Y_X12_layBehind 40 (.getfield 84) 3 43 from ⟨by decide +kernel, rfl⟩) w_f_RX12_84 rfl (fun v3 => ?_)
      refine J_aload_n rfl rfl (show Dc Y_X12_layBehind 43 (.aload_n 0) 1 44 from ⟨by decide +kernel, rfl⟩) ?_
      refine J_getR (show Dc Y_X12_layBehind 44 (.getfield 78) 3 47 from ⟨by decide +kernel, rfl⟩) w_f_RX12_78 rfl (fun v4 => ?_)
      refine J_iload_n rfl rfl (show Dc Y_X12_layBehind 47 (.iload_n 2) 1 48 from ⟨by decide +kernel, rfl⟩) ?_
      refine J_iald (show Dc Y_X12_layBehind 48 (.iaload) 1 49 from ⟨by decide +kernel, rfl⟩) (fun v5 => ?_)
      refine J_dup2 rfl rfl (show Dc Y_X12_layBehind 49 (.dup2) 1 50 from ⟨by decide +kernel, rfl⟩) ?_
      refine J_iald (show Dc Y_X12_layBehind 50 (.iaload) 1 51 from ⟨by decide +kernel, rfl⟩) (fun v6 => ?_)
      refine J_iconst (1 : Int32) rfl (show Dc Y_X12_layBehind 51 (.iconst 1) 1 52 from ⟨by decide +kernel, rfl⟩) ?_
      refine J_aload_n rfl rfl (show Dc Y_X12_layBehind 52 (.aload_n 0) 1 53 from ⟨by decide +kernel, rfl⟩) ?_
      refine J_getR (show Dc Y_X12_layBehind 53 (.getfield 81) 3 56 from ⟨by decide +kernel, rfl⟩) w_f_RX12_81 rfl (fun v7 => ?_)
      refine J_iload_n rfl rfl (show Dc Y_X12_layBehind 56 (.iload_n 2) 1 57 from ⟨by decide +kernel, rfl⟩) ?_
      refine J_iald (show Dc Y_X12_layBehind 57 (.iaload) 1 58 from ⟨by decide +kernel, rfl⟩) (fun v8 => ?_)
      refine J_ishl (show Dc Y_X12_layBehind 58 (.ishl) 1 59 from ⟨by decide +kernel, rfl⟩) ?_
      refine J_ior (show Dc Y_X12_layBehind 59 (.ior) 1 60 from ⟨by decide +kernel, rfl⟩) ?_
      refine J_iast (show Dc Y_X12_layBehind 60 (.iastore) 1 61 from ⟨by decide +kernel, rfl⟩) (fun g9 => ?_)
      exact j_X12_layBehind_61 N x0 x1 x2 g9 h0 hL23

theorem j_X12_layBehind_2 {X : ZX} (N : Nat) (x0 : Nat) (x1 : Int32) (x2 : Int32)   (g : ZS) {K : ((Int32 × ZS) ⊕ ZS) → Prop} (h0 : ∀ g, K (.inr g) → xK X none g) (hL2 : ∀ s, K (.inl s) → zG Y_X12_layBehind X 0 0 2 [some (.ref x0), some (.int x1), some (.int s.1)] [] s.2) : J Y_X12_layBehind X 0 0 2 [some (.ref x0), some (.int x1), some (.int x2)] [] g (f_X12_layBehind_2 N x0 x1 x2 g) K := by
  unfold f_X12_layBehind_2
  refine J_iload_n rfl rfl (show Dc Y_X12_layBehind 2 (.iload_n 2) 1 3 from ⟨by decide +kernel, rfl⟩) ?_
  refine J_bipush (8 : Int32) rfl (show Dc Y_X12_layBehind 3 (.bipush 8) 2 5 from ⟨by decide +kernel, rfl⟩) ?_
  refine J_icmp_ge (tg := 21) (show Dc Y_X12_layBehind 5 (.if_icmp .ge 16) 3 8 from ⟨by decide +kernel, rfl⟩) (by decide) (fun h => ?_) (fun h => ?_)
  · refine J_map (f := Sum.inr) (fun _ h => h) ?_
    refine J_iconst (0 : Int32) rfl (show Dc Y_X12_layBehind 21 (.iconst 0) 1 22 from ⟨by decide +kernel, rfl⟩) ?_
    refine J_istore_n [some (.ref x0), some (.int x1), some (.int (0 : Int32))] (show Dc Y_X12_layBehind 22 (.istore_n 2) 1 23 from ⟨by decide +kernel, rfl⟩) rfl (by decide) rfl rfl ?_
    exact J_loop (X := X) (K := (fun o => K (.inr o))) (uc := fun _ => 0) (us := fun _ => 0) (lf := fun s => [some (.ref x0), some (.int x1), some (.int s.1)]) (gf := fun s => s.2) (fun s => j_X12_layBehind_23 (K := zKl Y_X12_layBehind X 23 (fun _ => 0) (fun _ => 0) (fun s => [some (.ref x0), some (.int x1), some (.int s.1)]) (fun s => s.2) (fun o => K (.inr o))) N x0 x1 s.1 s.2 h0 (fun s h => h)) N ((0 : Int32), g)
  · refine J_aload_n rfl rfl (show Dc Y_X12_layBehind 8 (.aload_n 0) 1 9 from ⟨by decide +kernel, rfl⟩) ?_
    refine J_getR (show Dc Y_X12_layBehind 9 (.getfield 84) 3 12 from ⟨by decide +kernel, rfl⟩) w_f_RX12_84 rfl (fun v1 => ?_)
    refine J_iload_n rfl rfl (show Dc Y_X12_layBehind 12 (.iload_n 2) 1 13 from ⟨by decide +kernel, rfl⟩) ?_
    refine J_iconst (0 : Int32) rfl (show Dc Y_X12_layBehind 13 (.iconst 0) 1 14 from ⟨by decide +kernel, rfl⟩) ?_
    refine J_iast (show Dc Y_X12_layBehind 14 (.iastore) 1 15 from ⟨by decide +kernel, rfl⟩) (fun g2 => ?_)
    refine J_iinc (1 : Int32) [some (.ref x0), some (.int x1), some (.int (x2 + (1 : Int32)))] (show Dc Y_X12_layBehind 15 (.iinc 2 1) 3 18 from ⟨by decide +kernel, rfl⟩) rfl rfl (by decide) rfl rfl ?_
    refine J_goto (tg := 2) (show Dc Y_X12_layBehind 18 (.goto (-16)) 3 21 from ⟨by decide +kernel, rfl⟩) (by decide) ?_
    exact J_leaf (fun h => hL2 (x2 + (1 : Int32), g2) h)

theorem j_X12_layBehind {X : ZX} (N : Nat) (x0 : Nat) (x1 : Int32)   (g : ZS) {K : ZS → Prop} (h0 : ∀ g, K g → xK X none g) : J Y_X12_layBehind X 0 0 0 [some (.ref x0), some (.int x1), none] [] g (f_X12_layBehind N x0 x1 g) K := by
  unfold f_X12_layBehind
  refine J_iconst (0 : Int32) rfl (show Dc Y_X12_layBehind 0 (.iconst 0) 1 1 from ⟨by decide +kernel, rfl⟩) ?_
  refine J_istore_n [some (.ref x0), some (.int x1), some (.int (0 : Int32))] (show Dc Y_X12_layBehind 1 (.istore_n 2) 1 2 from ⟨by decide +kernel, rfl⟩) rfl (by decide) rfl rfl ?_
  exact J_loop (X := X) (K := K) (uc := fun _ => 0) (us := fun _ => 0) (lf := fun s => [some (.ref x0), some (.int x1), some (.int s.1)]) (gf := fun s => s.2) (fun s => j_X12_layBehind_2 (K := zKl Y_X12_layBehind X 2 (fun _ => 0) (fun _ => 0) (fun s => [some (.ref x0), some (.int x1), some (.int s.1)]) (fun s => s.2) K) N x0 x1 s.1 s.2 h0 (fun s h => h)) N ((0 : Int32), g)

theorem c_X12_layBehind {l : Launch} {D : ZD} {B0 : Nat} (N : Nat) (x0 : Nat) (x1 : Int32) (g : ZS) : ∀ r, f_X12_layBehind N x0 x1 g = some r → zCt l D B0 yX12_layBehind Y_X12_layBehind [.ref x0, .int x1] g none r :=
  zCt_ofF (vo := fun _ => none) (so := fun r => r) (by decide +kernel) rfl (fun h => by cases h) rfl (Nat.le_of_ble_eq_true rfl) (fun X => j_X12_layBehind N x0 x1 g (fun _ h => h))

theorem j_X7_costOfBehind_50 {X : ZX} (N : Nat) (x0 : Nat) (x1 : Int32) (x2 : Int32) (x3 : Int32) (x4 : Int32)   (g : ZS) {K : ((Int32 × Int32) ⊕ Int32) → Prop} (h0 : ∀ v, K (.inr v) → xK X (some (.int v)) g) (hL5 : ∀ s, K (.inl s) → zG Y_X7_costOfBehind X 0 0 5 [some (.ref x0), some (.int x1), some (.int x2), some (.int s.1), some (.int s.2)] [] g) : J Y_X7_costOfBehind X 0 0 50 [some (.ref x0), some (.int x1), some (.int x2), some (.int x3), some (.int x4)] [] g (f_X7_costOfBehind_50 N x0 x1 x2 x3 x4 g) K := by
  unfold f_X7_costOfBehind_50
  refine J_iinc (1 : Int32) [some (.ref x0), some (.int x1), some (.int x2), some (.int x3), some (.int (x4 + (1 : Int32)))] (show Dc Y_X7_costOfBehind 50 (.iinc 4 1) 3 53 from ⟨by decide +kernel, rfl⟩) rfl rfl (by decide) rfl rfl ?_
  refine J_goto (tg := 5) (show Dc Y_X7_costOfBehind 53 (.goto (-48)) 3 56 from ⟨by decide +kernel, rfl⟩) (by decide) ?_
  exact J_leaf (fun h => hL5 (x3, x4 + (1 : Int32)) h)

theorem j_X7_costOfBehind_5 {X : ZX} (N : Nat) (x0 : Nat) (x1 : Int32) (x2 : Int32) (x3 : Int32) (x4 : Int32)   (g : ZS) {K : ((Int32 × Int32) ⊕ Int32) → Prop} (h0 : ∀ v, K (.inr v) → xK X (some (.int v)) g) (hL5 : ∀ s, K (.inl s) → zG Y_X7_costOfBehind X 0 0 5 [some (.ref x0), some (.int x1), some (.int x2), some (.int s.1), some (.int s.2)] [] g) : J Y_X7_costOfBehind X 0 0 5 [some (.ref x0), some (.int x1), some (.int x2), some (.int x3), some (.int x4)] [] g (f_X7_costOfBehind_5 N x0 x1 x2 x3 x4 g) K := by
  unfold f_X7_costOfBehind_5
  refine J_iload rfl (show Dc Y_X7_costOfBehind 5 (.iload 4) 2 7 from ⟨by decide +kernel, rfl⟩) ?_
  refine J_aload_n rfl rfl (show Dc Y_X7_costOfBehind 7 (.aload_n 0) 1 8 from ⟨by decide +kernel, rfl⟩) ?_
  refine J_getI (show Dc Y_X7_costOfBehind 8 (.getfield 27) 3 11 from ⟨by decide +kernel, rfl⟩) w_f_RX7_27 rfl (fun v1 => ?_)
  refine J_icmp_ge (tg := 56) (show Dc Y_X7_costOfBehind 11 (.if_icmp .ge 45) 3 14 from ⟨by decide +kernel, rfl⟩) (by decide) (fun h => ?_) (fun h => ?_)
  · refine J_map (f := Sum.inr) (fun _ h => h) ?_
    refine J_iload_n rfl rfl (show Dc Y_X7_costOfBehind 56 (.iload_n 3) 1 57 from ⟨by decide +kernel, rfl⟩) ?_
    exact J_reti (show Dc Y_X7_costOfBehind 57 (.ireturn) 1 58 from ⟨by decide +kernel, rfl⟩) rfl (h0 _) (by decide) (by decide)
  · refine J_aload_n rfl rfl (show Dc Y_X7_costOfBehind 14 (.aload_n 0) 1 15 from ⟨by decide +kernel, rfl⟩) ?_
    refine J_getR (show Dc Y_X7_costOfBehind 15 (.getfield 9) 3 18 from ⟨by decide +kernel, rfl⟩) w_f_RX7_9 rfl (fun v2 => ?_)
    refine J_iload rfl (show Dc Y_X7_costOfBehind 18 (.iload 4) 2 20 from ⟨by decide +kernel, rfl⟩) ?_
    refine J_iald (show Dc Y_X7_costOfBehind 20 (.iaload) 1 21 from ⟨by decide +kernel, rfl⟩) (fun v3 => ?_)
    refine J_iload_n rfl rfl (show Dc Y_X7_costOfBehind 21 (.iload_n 1) 1 22 from ⟨by decide +kernel, rfl⟩) ?_
    refine J_icmp_ne (tg := 50) (show Dc Y_X7_costOfBehind 22 (.if_icmp .ne 28) 3 25 from ⟨by decide +kernel, rfl⟩) (by decide) (fun h => ?_) (fun h => ?_)
    · exact j_X7_costOfBehind_50 N x0 x1 x2 x3 x4 g h0 hL5
    · refine J_iload_n rfl rfl (show Dc Y_X7_costOfBehind 25 (.iload_n 2) 1 26 from ⟨by decide +kernel, rfl⟩) ?_
      refine J_aload_n rfl rfl (show Dc Y_X7_costOfBehind 26 (.aload_n 0) 1 27 from ⟨by decide +kernel, rfl⟩) ?_
      refine J_getR (show Dc Y_X7_costOfBehind 27 (.getfield 15) 3 30 from ⟨by decide +kernel, rfl⟩) w_f_RX7_15 rfl (fun v4 => ?_)
      refine J_iload rfl (show Dc Y_X7_costOfBehind 30 (.iload 4) 2 32 from ⟨by decide +kernel, rfl⟩) ?_
      refine J_iald (show Dc Y_X7_costOfBehind 32 (.iaload) 1 33 from ⟨by decide +kernel, rfl⟩) (fun v5 => ?_)
      refine J_ishr (show Dc Y_X7_costOfBehind 33 (.ishr) 1 34 from ⟨by decide +kernel, rfl⟩) ?_
      refine J_iconst (1 : Int32) rfl (show Dc Y_X7_costOfBehind 34 (.iconst 1) 1 35 from ⟨by decide +kernel, rfl⟩) ?_
      refine J_iand (show Dc Y_X7_costOfBehind 35 (.iand) 1 36 from ⟨by decide +kernel, rfl⟩) ?_
      refine J_if_eq (tg := 50) (show Dc Y_X7_costOfBehind 36 (.ifCond .eq 14) 3 39 from ⟨by decide +kernel, rfl⟩) (by decide) (fun h => ?_) (fun h => ?_)
      · exact j_X7_costOfBehind_50 N x0 x1 x2 x3 x4 g h0 hL5
      · refine J_iload_n rfl rfl (show Dc Y_X7_costOfBehind 39 (.iload_n 3) 1 40 from ⟨by decide +kernel, rfl⟩) ?_
        refine J_sipush (4096 : Int32) rfl (show Dc Y_X7_costOfBehind 40 (.sipush 4096) 3 43 from ⟨by decide +kernel, rfl⟩) ?_
        refine J_iconst (1 : Int32) rfl (show Dc Y_X7_costOfBehind 43 (.iconst 1) 1 44 from ⟨by decide +kernel, rfl⟩) ?_
        refine J_iload rfl (show Dc Y_X7_costOfBehind 44 (.iload 4) 2 46 from ⟨by decide +kernel, rfl⟩) ?_
        refine J_ishl (show Dc Y_X7_costOfBehind 46 (.ishl) 1 47 from ⟨by decide +kernel, rfl⟩) ?_
        refine J_ior (show Dc Y_X7_costOfBehind 47 (.ior) 1 48 from ⟨by decide +kernel, rfl⟩) ?_
        refine J_iadd (show Dc Y_X7_costOfBehind 48 (.iadd) 1 49 from ⟨by decide +kernel, rfl⟩) ?_
        refine J_istore_n [some (.ref x0), some (.int x1), some (.int x2), some (.int (x3 + ((4096 : Int32) ||| ((1 : Int32) <<< (x4 &&& 31))))), some (.int x4)] (show Dc Y_X7_costOfBehind 49 (.istore_n 3) 1 50 from ⟨by decide +kernel, rfl⟩) rfl (by decide) rfl rfl ?_
        exact j_X7_costOfBehind_50 N x0 x1 x2 (x3 + ((4096 : Int32) ||| ((1 : Int32) <<< (x4 &&& 31)))) x4 g h0 hL5

theorem j_X7_costOfBehind {X : ZX} (N : Nat) (x0 : Nat) (x1 : Int32) (x2 : Int32)   (g : ZS) {K : Int32 → Prop} (h0 : ∀ v, K v → xK X (some (.int v)) g) : J Y_X7_costOfBehind X 0 0 0 [some (.ref x0), some (.int x1), some (.int x2), none, none] [] g (f_X7_costOfBehind N x0 x1 x2 g) K := by
  unfold f_X7_costOfBehind
  refine J_iconst (0 : Int32) rfl (show Dc Y_X7_costOfBehind 0 (.iconst 0) 1 1 from ⟨by decide +kernel, rfl⟩) ?_
  refine J_istore_n [some (.ref x0), some (.int x1), some (.int x2), some (.int (0 : Int32)), none] (show Dc Y_X7_costOfBehind 1 (.istore_n 3) 1 2 from ⟨by decide +kernel, rfl⟩) rfl (by decide) rfl rfl ?_
  refine J_iconst (0 : Int32) rfl (show Dc Y_X7_costOfBehind 2 (.iconst 0) 1 3 from ⟨by decide +kernel, rfl⟩) ?_
  refine J_istore [some (.ref x0), some (.int x1), some (.int x2), some (.int (0 : Int32)), some (.int (0 : Int32))] (show Dc Y_X7_costOfBehind 3 (.istore 4) 2 5 from ⟨by decide +kernel, rfl⟩) (by decide) rfl rfl ?_
  exact J_loop (X := X) (K := K) (uc := fun _ => 0) (us := fun _ => 0) (lf := fun s => [some (.ref x0), some (.int x1), some (.int x2), some (.int s.1), some (.int s.2)]) (gf := fun s => g) (fun s => j_X7_costOfBehind_5 (K := zKl Y_X7_costOfBehind X 5 (fun _ => 0) (fun _ => 0) (fun s => [some (.ref x0), some (.int x1), some (.int x2), some (.int s.1), some (.int s.2)]) (fun s => g) K) N x0 x1 x2 s.1 s.2 g h0 (fun s h => h)) N ((0 : Int32), (0 : Int32))

theorem c_X7_costOfBehind {l : Launch} {D : ZD} {B0 : Nat} (N : Nat) (x0 : Nat) (x1 : Int32) (x2 : Int32) (g : ZS) : ∀ r, f_X7_costOfBehind N x0 x1 x2 g = some r → zCt l D B0 yX7_costOfBehind Y_X7_costOfBehind [.ref x0, .int x1, .int x2] g (some (.int r)) g :=
  zCt_ofF (vo := fun r => some (.int r)) (so := fun _ => g) (by decide +kernel) rfl (fun h => by cases h) rfl (Nat.le_of_ble_eq_true rfl) (fun X => j_X7_costOfBehind N x0 x1 x2 g (fun _ h => h))

theorem j_X7_leastCost_64 {X : ZX} (N : Nat) (x0 : Nat) (x1 : Int32) (x2 : Int32) (x3 : Int32)   (g : ZS) {K : ((Int32 × Int32) ⊕ ((Int32 × ZS) ⊕ (Int32 × ZS))) → Prop} (h0 : ∀ v g, K (.inr (.inr (v, g))) → xK X (some (.int v)) g) (hL9 : ∀ s, K (.inr (.inl s)) → zG Y_X7_leastCost X 0 0 9 [some (.ref x0), some (.int s.1), none, none, none] [] s.2) (hL21 : ∀ s, K (.inl s) → zG Y_X7_leastCost X 0 0 21 [some (.ref x0), some (.int x1), some (.int s.1), some (.int s.2), none] [] g) : J Y_X7_leastCost X 0 0 64 [some (.ref x0), some (.int x1), some (.int x2), some (.int x3), none] [] g (f_X7_leastCost_64 N x0 x1 x2 x3 g) K := by
  unfold f_X7_leastCost_64
  refine J_iinc (1 : Int32) [some (.ref x0), some (.int x1), some (.int x2), some (.int (x3 + (1 : Int32))), none] (show Dc Y_X7_leastCost 64 (.iinc 3 1) 3 67 from ⟨by decide +kernel, rfl⟩) rfl rfl (by decide) rfl rfl ?_
  refine J_goto (tg := 21) (show Dc Y_X7_leastCost 67 (.goto (-46)) 3 70 from ⟨by decide +kernel, rfl⟩) (by decide) ?_
  exact J_leaf (fun h => hL21 (x2, x3 + (1 : Int32)) h)

theorem j_X7_leastCost_21 {X : ZX} (N : Nat) (x0 : Nat) (x1 : Int32) (x2 : Int32) (x3 : Int32)   (g : ZS) {K : ((Int32 × Int32) ⊕ ((Int32 × ZS) ⊕ (Int32 × ZS))) → Prop} (h0 : ∀ v g, K (.inr (.inr (v, g))) → xK X (some (.int v)) g) (hL9 : ∀ s, K (.inr (.inl s)) → zG Y_X7_leastCost X 0 0 9 [some (.ref x0), some (.int s.1), none, none, none] [] s.2) (hL21 : ∀ s, K (.inl s) → zG Y_X7_leastCost X 0 0 21 [some (.ref x0), some (.int x1), some (.int s.1), some (.int s.2), none] [] g) : J Y_X7_leastCost X 0 0 21 [some (.ref x0), some (.int x1), some (.int x2), some (.int x3), none] [] g (f_X7_leastCost_21 N x0 x1 x2 x3 g) K := by
  unfold f_X7_leastCost_21
  refine J_iload_n rfl rfl (show Dc Y_X7_leastCost 21 (.iload_n 3) 1 22 from ⟨by decide +kernel, rfl⟩) ?_
  refine J_bipush (8 : Int32) rfl (show Dc Y_X7_leastCost 22 (.bipush 8) 2 24 from ⟨by decide +kernel, rfl⟩) ?_
  refine J_icmp_ge (tg := 70) (show Dc Y_X7_leastCost 24 (.if_icmp .ge 46) 3 27 from ⟨by decide +kernel, rfl⟩) (by decide) (fun h => ?_) (fun h => ?_)
  · refine J_map (f := Sum.inr) (fun _ h => h) ?_
    refine J_aload_n rfl rfl (show Dc Y_X7_leastCost 70 (.aload_n 0) 1 71 from ⟨by decide +kernel, rfl⟩) ?_
    refine J_getR (show Dc Y_X7_leastCost 71 (.getfield 24) 3 74 from ⟨by decide +kernel, rfl⟩) w_f_RX7_24 rfl (fun v1 => ?_)
    refine J_iload_n rfl rfl (show Dc Y_X7_leastCost 74 (.iload_n 1) 1 75 from ⟨by decide +kernel, rfl⟩) ?_
    refine J_iload_n rfl rfl (show Dc Y_X7_leastCost 75 (.iload_n 2) 1 76 from ⟨by decide +kernel, rfl⟩) ?_
    refine J_iast (show Dc Y_X7_leastCost 76 (.iastore) 1 77 from ⟨by decide +kernel, rfl⟩) (fun g2 => ?_)
    refine J_iinc (1 : Int32) [some (.ref x0), some (.int (x1 + (1 : Int32))), some (.int x2), some (.int x3), none] (show Dc Y_X7_leastCost 77 (.iinc 1 1) 3 80 from ⟨by decide +kernel, rfl⟩) rfl rfl (by decide) rfl rfl ?_
    refine J_goto (tg := 9) (show Dc Y_X7_leastCost 80 (.goto (-71)) 3 83 from ⟨by decide +kernel, rfl⟩) (by decide) ?_
    refine J_mask [true, true, false, false, false] ?_
    exact J_leaf (fun h => hL9 (x1 + (1 : Int32), g2) h)
  · refine J_iload_n rfl rfl (show Dc Y_X7_leastCost 27 (.iload_n 1) 1 28 from ⟨by decide +kernel, rfl⟩) ?_
    refine J_iload_n rfl rfl (show Dc Y_X7_leastCost 28 (.iload_n 3) 1 29 from ⟨by decide +kernel, rfl⟩) ?_
    refine J_ishr (show Dc Y_X7_leastCost 29 (.ishr) 1 30 from ⟨by decide +kernel, rfl⟩) ?_
    refine J_iconst (1 : Int32) rfl (show Dc Y_X7_leastCost 30 (.iconst 1) 1 31 from ⟨by decide +kernel, rfl⟩) ?_
    refine J_iand (show Dc Y_X7_leastCost 31 (.iand) 1 32 from ⟨by decide +kernel, rfl⟩) ?_
    refine J_if_eq (tg := 64) (show Dc Y_X7_leastCost 32 (.ifCond .eq 32) 3 35 from ⟨by decide +kernel, rfl⟩) (by decide) (fun h => ?_) (fun h => ?_)
    · exact j_X7_leastCost_64 N x0 x1 x2 x3 g h0 hL9 hL21
    · refine J_iload_n rfl rfl (show Dc Y_X7_leastCost 35 (.iload_n 1) 1 36 from ⟨by decide +kernel, rfl⟩) ?_
      refine J_iconst (1 : Int32) rfl (show Dc Y_X7_leastCost 36 (.iconst 1) 1 37 from ⟨by decide +kernel, rfl⟩) ?_
      refine J_iload_n rfl rfl (show Dc Y_X7_leastCost 37 (.iload_n 3) 1 38 from ⟨by decide +kernel, rfl⟩) ?_
      refine J_ishl (show Dc Y_X7_leastCost 38 (.ishl) 1 39 from ⟨by decide +kernel, rfl⟩) ?_
      refine J_iconst (-1 : Int32) rfl (show Dc Y_X7_leastCost 39 (.iconst (-1)) 1 40 from ⟨by decide +kernel, rfl⟩) ?_
      refine J_ixor (show Dc Y_X7_leastCost 40 (.ixor) 1 41 from ⟨by decide +kernel, rfl⟩) ?_
      refine J_iand (show Dc Y_X7_leastCost 41 (.iand) 1 42 from ⟨by decide +kernel, rfl⟩) ?_
      refine J_istore [some (.ref x0), some (.int x1), some (.int x2), some (.int x3), some (.int (x1 &&& (((1 : Int32) <<< (x3 &&& 31)) ^^^ (-1 : Int32))))] (show Dc Y_X7_leastCost 42 (.istore 4) 2 44 from ⟨by decide +kernel, rfl⟩) (by decide) rfl rfl ?_
      refine J_iload_n rfl rfl (show Dc Y_X7_leastCost 44 (.iload_n 2) 1 45 from ⟨by decide +kernel, rfl⟩) ?_
      refine J_aload_n rfl rfl (show Dc Y_X7_leastCost 45 (.aload_n 0) 1 46 from ⟨by decide +kernel, rfl⟩) ?_
      refine J_getR (show Dc Y_X7_leastCost 46 (.getfield 24) 3 49 from ⟨by decide +kernel, rfl⟩) w_f_RX7_24 rfl (fun v3 => ?_)
      refine J_iload rfl (show Dc Y_X7_leastCost 49 (.iload 4) 2 51 from ⟨by decide +kernel, rfl⟩) ?_
      refine J_iald (show Dc Y_X7_leastCost 51 (.iaload) 1 52 from ⟨by decide +kernel, rfl⟩) (fun v4 => ?_)
      refine J_aload_n rfl rfl (show Dc Y_X7_leastCost 52 (.aload_n 0) 1 53 from ⟨by decide +kernel, rfl⟩) ?_
      refine J_iload_n rfl rfl (show Dc Y_X7_leastCost 53 (.iload_n 3) 1 54 from ⟨by decide +kernel, rfl⟩) ?_
      refine J_iload rfl (show Dc Y_X7_leastCost 54 (.iload 4) 2 56 from ⟨by decide +kernel, rfl⟩) ?_
      refine J_callVi (fun r => r) (fun _ => g) (show Dc Y_X7_leastCost 56 (.invokevirtual 51) 3 59 from ⟨by decide +kernel, rfl⟩) w_m_RX7_51 w_in_X7_costOfBehind rfl w_se_X7_costOfBehind w_cw_X7_costOfBehind (c_X7_costOfBehind N x0 x3 (x1 &&& (((1 : Int32) <<< (x3 &&& 31)) ^^^ (-1 : Int32))) g) rfl rfl (by decide) (Nat.le_of_ble_eq_true rfl) (by decide) (by decide) (fun v5 => ?_)
      refine J_iadd (show Dc Y_X7_leastCost 59 (.iadd) 1 60 from ⟨by decide +kernel, rfl⟩) ?_
      refine J_callSi (fun r => r) (fun _ => g) (show Dc Y_X7_leastCost 60 (.invokestatic 54) 3 63 from ⟨by decide +kernel, rfl⟩) w_m_RX7_54 w_st_J9_min_7cf53 w_cw_J9_min_7cf53 (c_J9_min_7cf53 x2 (v4 + v5) g) rfl rfl (by decide) (Nat.le_of_ble_eq_true rfl) (by decide) (by decide) (fun v6 => ?_)
      refine J_istore_n [some (.ref x0), some (.int x1), some (.int v6), some (.int x3), some (.int (x1 &&& (((1 : Int32) <<< (x3 &&& 31)) ^^^ (-1 : Int32))))] (show Dc Y_X7_leastCost 63 (.istore_n 2) 1 64 from ⟨by decide +kernel, rfl⟩) rfl (by decide) rfl rfl ?_
      refine J_mask [true, true, true, true, false] ?_
      exact j_X7_leastCost_64 N x0 x1 v6 x3 g h0 hL9 hL21

theorem j_X7_leastCost_9 {X : ZX} (N : Nat) (x0 : Nat) (x1 : Int32)   (g : ZS) {K : ((Int32 × ZS) ⊕ (Int32 × ZS)) → Prop} (h0 : ∀ v g, K (.inr (v, g)) → xK X (some (.int v)) g) (hL9 : ∀ s, K (.inl s) → zG Y_X7_leastCost X 0 0 9 [some (.ref x0), some (.int s.1), none, none, none] [] s.2) : J Y_X7_leastCost X 0 0 9 [some (.ref x0), some (.int x1), none, none, none] [] g (f_X7_leastCost_9 N x0 x1 g) K := by
  unfold f_X7_leastCost_9
  refine J_iload_n rfl rfl (show Dc Y_X7_leastCost 9 (.iload_n 1) 1 10 from ⟨by decide +kernel, rfl⟩) ?_
  refine J_sipush (256 : Int32) rfl (show Dc Y_X7_leastCost 10 (.sipush 256) 3 13 from ⟨by decide +kernel, rfl⟩) ?_
  refine J_icmp_ge (tg := 83) (show Dc Y_X7_leastCost 13 (.if_icmp .ge 70) 3 16 from ⟨by decide +kernel, rfl⟩) (by decide) (fun h => ?_) (fun h => ?_)
  · refine J_map (f := Sum.inr) (fun _ h => h) ?_
    refine J_aload_n rfl rfl (show Dc Y_X7_leastCost 83 (.aload_n 0) 1 84 from ⟨by decide +kernel, rfl⟩) ?_
    refine J_getR (show Dc Y_X7_leastCost 84 (.getfield 24) 3 87 from ⟨by decide +kernel, rfl⟩) w_f_RX7_24 rfl (fun v1 => ?_)
    refine J_sipush (255 : Int32) rfl (show Dc Y_X7_leastCost 87 (.sipush 255) 3 90 from ⟨by decide +kernel, rfl⟩) ?_
    refine J_iald (show Dc Y_X7_leastCost 90 (.iaload) 1 91 from ⟨by decide +kernel, rfl⟩) (fun v2 => ?_)
    exact J_reti (show Dc Y_X7_leastCost 91 (.ireturn) 1 92 from ⟨by decide +kernel, rfl⟩) rfl (h0 _ _) (by decide) (by decide)
  · refine J_ldc (1073741824 : Int32) w_k_RX7_50 (show Dc Y_X7_leastCost 16 (.ldc 50) 2 18 from ⟨by decide +kernel, rfl⟩) ?_
    refine J_istore_n [some (.ref x0), some (.int x1), some (.int (1073741824 : Int32)), none, none] (show Dc Y_X7_leastCost 18 (.istore_n 2) 1 19 from ⟨by decide +kernel, rfl⟩) rfl (by decide) rfl rfl ?_
    refine J_iconst (0 : Int32) rfl (show Dc Y_X7_leastCost 19 (.iconst 0) 1 20 from ⟨by decide +kernel, rfl⟩) ?_
    refine J_istore_n [some (.ref x0), some (.int x1), some (.int (1073741824 : Int32)), some (.int (0 : Int32)), none] (show Dc Y_X7_leastCost 20 (.istore_n 3) 1 21 from ⟨by decide +kernel, rfl⟩) rfl (by decide) rfl rfl ?_
    exact J_loop (X := X) (K := K) (uc := fun _ => 0) (us := fun _ => 0) (lf := fun s => [some (.ref x0), some (.int x1), some (.int s.1), some (.int s.2), none]) (gf := fun s => g) (fun s => j_X7_leastCost_21 (K := zKl Y_X7_leastCost X 21 (fun _ => 0) (fun _ => 0) (fun s => [some (.ref x0), some (.int x1), some (.int s.1), some (.int s.2), none]) (fun s => g) K) N x0 x1 s.1 s.2 g h0 hL9 (fun s h => h)) N ((1073741824 : Int32), (0 : Int32))

theorem j_X7_leastCost {X : ZX} (N : Nat) (x0 : Nat)   (g : ZS) {K : (Int32 × ZS) → Prop} (h0 : ∀ v g, K (v, g) → xK X (some (.int v)) g) : J Y_X7_leastCost X 0 0 0 [some (.ref x0), none, none, none, none] [] g (f_X7_leastCost N x0 g) K := by
  unfold f_X7_leastCost
  refine J_aload_n rfl rfl (show Dc Y_X7_leastCost 0 (.aload_n 0) 1 1 from ⟨by decide +kernel, rfl⟩) ?_
  refine J_getR (show Dc Y_X7_leastCost 1 (.getfield 24) 3 4 from ⟨by decide +kernel, rfl⟩) w_f_RX7_24 rfl (fun v1 => ?_)
  refine J_iconst (0 : Int32) rfl (show Dc Y_X7_leastCost 4 (.iconst 0) 1 5 from ⟨by decide +kernel, rfl⟩) ?_
  refine J_iconst (0 : Int32) rfl (show Dc Y_X7_leastCost 5 (.iconst 0) 1 6 from ⟨by decide +kernel, rfl⟩) ?_
  refine J_iast (show Dc Y_X7_leastCost 6 (.iastore) 1 7 from ⟨by decide +kernel, rfl⟩) (fun g2 => ?_)
  refine J_iconst (1 : Int32) rfl (show Dc Y_X7_leastCost 7 (.iconst 1) 1 8 from ⟨by decide +kernel, rfl⟩) ?_
  refine J_istore_n [some (.ref x0), some (.int (1 : Int32)), none, none, none] (show Dc Y_X7_leastCost 8 (.istore_n 1) 1 9 from ⟨by decide +kernel, rfl⟩) rfl (by decide) rfl rfl ?_
  exact J_loop (X := X) (K := K) (uc := fun _ => 0) (us := fun _ => 0) (lf := fun s => [some (.ref x0), some (.int s.1), none, none, none]) (gf := fun s => s.2) (fun s => j_X7_leastCost_9 (K := zKl Y_X7_leastCost X 9 (fun _ => 0) (fun _ => 0) (fun s => [some (.ref x0), some (.int s.1), none, none, none]) (fun s => s.2) K) N x0 s.1 s.2 h0 (fun s h => h)) N ((1 : Int32), g2)

theorem c_X7_leastCost {l : Launch} {D : ZD} {B0 : Nat} (N : Nat) (x0 : Nat) (g : ZS) : ∀ r, f_X7_leastCost N x0 g = some r → zCt l D B0 yX7_leastCost Y_X7_leastCost [.ref x0] g (some (.int r.1)) r.2 :=
  zCt_ofF (vo := fun r => some (.int r.1)) (so := fun r => r.2) (by decide +kernel) rfl (fun h => by cases h) rfl (Nat.le_of_ble_eq_true rfl) (fun X => j_X7_leastCost N x0 g (fun _ _ h => h))

theorem j_X11_drop {X : ZX} (N : Nat) (x0 : Nat)   (g : ZS) {K : (Int32 × ZS) → Prop} (h0 : ∀ v g, K (v, g) → xK X (some (.int v)) g) : J Y_X11_drop X 0 0 0 [some (.ref x0), none] [] g (f_X11_drop N x0 g) K := by
  unfold f_X11_drop
  refine J_aload_n rfl rfl (show Dc Y_X11_drop 0 (.aload_n 0) 1 1 from ⟨by decide +kernel, rfl⟩) ?_
  refine J_getR (show Dc Y_X11_drop 1 (.getfield 89) 3 4 from ⟨by decide +kernel, rfl⟩) w_f_RX11_89 rfl (fun v1 => ?_)
  refine J_callVi (fun r => r.1) (fun r => r.2) (show Dc Y_X11_drop 4 (.invokevirtual 403) 3 7 from ⟨by decide +kernel, rfl⟩) w_m_RX11_403 w_in_X7_leastCost rfl w_se_X7_leastCost w_cw_X7_leastCost (c_X7_leastCost N v1 g) rfl rfl (by decide) (Nat.le_of_ble_eq_true rfl) (by decide) (by decide) (fun r2 => ?_)
  refine J_istore_n [some (.ref x0), some (.int r2.1)] (show Dc Y_X11_drop 7 (.istore_n 1) 1 8 from ⟨by decide +kernel, rfl⟩) rfl (by decide) rfl rfl ?_
  refine J_aload_n rfl rfl (show Dc Y_X11_drop 8 (.aload_n 0) 1 9 from ⟨by decide +kernel, rfl⟩) ?_
  refine J_getR (show Dc Y_X11_drop 9 (.getfield 19) 3 12 from ⟨by decide +kernel, rfl⟩) w_f_RX11_19 rfl (fun v3 => ?_)
  refine J_iload_n rfl rfl (show Dc Y_X11_drop 12 (.iload_n 1) 1 13 from ⟨by decide +kernel, rfl⟩) ?_
  refine J_sipush (4095 : Int32) rfl (show Dc Y_X11_drop 13 (.sipush 4095) 3 16 from ⟨by decide +kernel, rfl⟩) ?_
  refine J_iand (show Dc Y_X11_drop 16 (.iand) 1 17 from ⟨by decide +kernel, rfl⟩) ?_
  refine J_i2l (show Dc Y_X11_drop 17 (.i2l) 1 18 from ⟨by decide +kernel, rfl⟩) ?_
  refine J_callVv (fun r => r) (show Dc Y_X11_drop 18 (.invokevirtual 339) 3 21 from ⟨by decide +kernel, rfl⟩) w_m_RX11_339 w_in_X9_only rfl w_se_X9_only w_cw_X9_only (c_X9_only v3 ((r2.1 &&& (4095 : Int32)).toInt64) r2.2) rfl rfl (by decide) (Nat.le_of_ble_eq_true rfl) (by decide) (by decide) (fun g4 => ?_)
  refine J_iload_n rfl rfl (show Dc Y_X11_drop 21 (.iload_n 1) 1 22 from ⟨by decide +kernel, rfl⟩) ?_
  refine J_bipush (12 : Int32) rfl (show Dc Y_X11_drop 22 (.bipush 12) 2 24 from ⟨by decide +kernel, rfl⟩) ?_
  refine J_ishr (show Dc Y_X11_drop 24 (.ishr) 1 25 from ⟨by decide +kernel, rfl⟩) ?_
  exact J_reti (show Dc Y_X11_drop 25 (.ireturn) 1 26 from ⟨by decide +kernel, rfl⟩) rfl (h0 _ _) (by decide) (by decide)

theorem c_X11_drop {l : Launch} {D : ZD} {B0 : Nat} (N : Nat) (x0 : Nat) (g : ZS) : ∀ r, f_X11_drop N x0 g = some r → zCt l D B0 yX11_drop Y_X11_drop [.ref x0] g (some (.int r.1)) r.2 :=
  zCt_ofF (vo := fun r => some (.int r.1)) (so := fun r => r.2) (by decide +kernel) rfl (fun h => by cases h) rfl (Nat.le_of_ble_eq_true rfl) (fun X => j_X11_drop N x0 g (fun _ _ h => h))

theorem j_X12_canBe_66 {X : ZX} (N : Nat) (x0 : Nat) (x2 : Int32) (x3 : Int32) (x4 : Int32)   (g : ZS) {K : ((Int32 × Int32 × Int32) ⊕ ((Int32 × Int32) ⊕ (Int32 × ZS))) → Prop} (h0 : ∀ v g, K (.inr (.inr (v, g))) → xK X (some (.int v)) g) (hL11 : ∀ s, K (.inr (.inl s)) → zG Y_X12_canBe X 0 0 11 [some (.ref x0), none, some (.int s.1), some (.int s.2), none] [] g) (hL24 : ∀ s, K (.inl s) → zG Y_X12_canBe X 0 0 24 [some (.ref x0), none, some (.int s.1), some (.int s.2.1), some (.int s.2.2)] [] g) : J Y_X12_canBe X 0 0 66 [some (.ref x0), none, some (.int x2), some (.int x3), some (.int x4)] [] g (f_X12_canBe_66 N x0 x2 x3 x4 g) K := by
  unfold f_X12_canBe_66
  refine J_iinc (1 : Int32) [some (.ref x0), none, some (.int x2), some (.int x3), some (.int (x4 + (1 : Int32)))] (show Dc Y_X12_canBe 66 (.iinc 4 1) 3 69 from ⟨by decide +kernel, rfl⟩) rfl rfl (by decide) rfl rfl ?_
  refine J_goto (tg := 24) (show Dc Y_X12_canBe 69 (.goto (-45)) 3 72 from ⟨by decide +kernel, rfl⟩) (by decide) ?_
  exact J_leaf (fun h => hL24 (x2, x3, x4 + (1 : Int32)) h)

theorem j_X12_canBe_24 {X : ZX} (N : Nat) (x0 : Nat) (x2 : Int32) (x3 : Int32) (x4 : Int32)   (g : ZS) {K : ((Int32 × Int32 × Int32) ⊕ ((Int32 × Int32) ⊕ (Int32 × ZS))) → Prop} (h0 : ∀ v g, K (.inr (.inr (v, g))) → xK X (some (.int v)) g) (hL11 : ∀ s, K (.inr (.inl s)) → zG Y_X12_canBe X 0 0 11 [some (.ref x0), none, some (.int s.1), some (.int s.2), none] [] g) (hL24 : ∀ s, K (.inl s) → zG Y_X12_canBe X 0 0 24 [some (.ref x0), none, some (.int s.1), some (.int s.2.1), some (.int s.2.2)] [] g) : J Y_X12_canBe X 0 0 24 [some (.ref x0), none, some (.int x2), some (.int x3), some (.int x4)] [] g (f_X12_canBe_24 N x0 x2 x3 x4 g) K := by
  unfold f_X12_canBe_24
  refine J_iload rfl (show Dc Y_X12_canBe 24 (.iload 4) 2 26 from ⟨by decide +kernel, rfl⟩) ?_
  refine J_bipush (8 : Int32) rfl (show Dc Y_X12_canBe 26 (.bipush 8) 2 28 from ⟨by decide +kernel, rfl⟩) ?_
  refine J_icmp_ge (tg := 72) (show Dc Y_X12_canBe 28 (.if_icmp .ge 44) 3 31 from ⟨by decide +kernel, rfl⟩) (by decide) (fun h => ?_) (fun h => ?_)
  · refine J_map (f := Sum.inr) (fun _ h => h) ?_
    refine J_goto (tg := 11) (show Dc Y_X12_canBe 72 (.goto (-61)) 3 75 from ⟨by decide +kernel, rfl⟩) (by decide) ?_
    refine J_mask [true, false, true, true, false] ?_
    exact J_leaf (fun h => hL11 (x2, x3) h)
  · refine J_iload_n rfl rfl (show Dc Y_X12_canBe 31 (.iload_n 2) 1 32 from ⟨by decide +kernel, rfl⟩) ?_
    refine J_iload rfl (show Dc Y_X12_canBe 32 (.iload 4) 2 34 from ⟨by decide +kernel, rfl⟩) ?_
    refine J_callSi (fun r => r) (fun _ => g) (show Dc Y_X12_canBe 34 (.invokestatic 328) 3 37 from ⟨by decide +kernel, rfl⟩) w_m_RX12_328 w_st_X12_has w_cw_X12_has (c_X12_has x2 x4 g) rfl rfl (by decide) (Nat.le_of_ble_eq_true rfl) (by decide) (by decide) (fun v1 => ?_)
    refine J_if_eq (tg := 66) (show Dc Y_X12_canBe 37 (.ifCond .eq 29) 3 40 from ⟨by decide +kernel, rfl⟩) (by decide) (fun h => ?_) (fun h => ?_)
    · exact j_X12_canBe_66 N x0 x2 x3 x4 g h0 hL11 hL24
    · refine J_aload_n rfl rfl (show Dc Y_X12_canBe 40 (.aload_n 0) 1 41 from ⟨by decide +kernel, rfl⟩) ?_
      refine J_getR (show Dc Y_X12_canBe 41 (.getfield 84) 3 44 from ⟨by decide +kernel, rfl⟩) w_f_RX12_84 rfl (fun v2 => ?_)
      refine J_iload rfl (show Dc Y_X12_canBe 44 (.iload 4) 2 46 from ⟨by decide +kernel, rfl⟩) ?_
      refine J_iald (show Dc Y_X12_canBe 46 (.iaload) 1 47 from ⟨by decide +kernel, rfl⟩) (fun v3 => ?_)
      refine J_iload_n rfl rfl (show Dc Y_X12_canBe 47 (.iload_n 2) 1 48 from ⟨by decide +kernel, rfl⟩) ?_
      refine J_iand (show Dc Y_X12_canBe 48 (.iand) 1 49 from ⟨by decide +kernel, rfl⟩) ?_
      refine J_if_eq (tg := 55) (show Dc Y_X12_canBe 49 (.ifCond .eq 6) 3 52 from ⟨by decide +kernel, rfl⟩) (by decide) (fun h => ?_) (fun h => ?_)
      · refine J_iload_n rfl rfl (show Dc Y_X12_canBe 55 (.iload_n 2) 1 56 from ⟨by decide +kernel, rfl⟩) ?_
        refine J_iconst (1 : Int32) rfl (show Dc Y_X12_canBe 56 (.iconst 1) 1 57 from ⟨by decide +kernel, rfl⟩) ?_
        refine J_iload rfl (show Dc Y_X12_canBe 57 (.iload 4) 2 59 from ⟨by decide +kernel, rfl⟩) ?_
        refine J_ishl (show Dc Y_X12_canBe 59 (.ishl) 1 60 from ⟨by decide +kernel, rfl⟩) ?_
        refine J_iconst (-1 : Int32) rfl (show Dc Y_X12_canBe 60 (.iconst (-1)) 1 61 from ⟨by decide +kernel, rfl⟩) ?_
        refine J_ixor (show Dc Y_X12_canBe 61 (.ixor) 1 62 from ⟨by decide +kernel, rfl⟩) ?_
        refine J_iand (show Dc Y_X12_canBe 62 (.iand) 1 63 from ⟨by decide +kernel, rfl⟩) ?_
        refine J_istore_n [some (.ref x0), none, some (.int (x2 &&& (((1 : Int32) <<< (x4 &&& 31)) ^^^ (-1 : Int32)))), some (.int x3), some (.int x4)] (show Dc Y_X12_canBe 63 (.istore_n 2) 1 64 from ⟨by decide +kernel, rfl⟩) rfl (by decide) rfl rfl ?_
        refine J_iconst (1 : Int32) rfl (show Dc Y_X12_canBe 64 (.iconst 1) 1 65 from ⟨by decide +kernel, rfl⟩) ?_
        refine J_istore_n [some (.ref x0), none, some (.int (x2 &&& (((1 : Int32) <<< (x4 &&& 31)) ^^^ (-1 : Int32)))), some (.int (1 : Int32)), some (.int x4)] (show Dc Y_X12_canBe 65 (.istore_n 3) 1 66 from ⟨by decide +kernel, rfl⟩) rfl (by decide) rfl rfl ?_
        exact j_X12_canBe_66 N x0 (x2 &&& (((1 : Int32) <<< (x4 &&& 31)) ^^^ (-1 : Int32))) (1 : Int32) x4 g h0 hL11 hL24
      · refine J_goto (tg := 66) (show Dc Y_X12_canBe 52 (.goto 14) 3 55 from ⟨by decide +kernel, rfl⟩) (by decide) ?_
        exact j_X12_canBe_66 N x0 x2 x3 x4 g h0 hL11 hL24

theorem j_X12_canBe_84 {X : ZX} (N : Nat)  (s0 : Int32)  (g : ZS) {K : (Int32 × ZS) → Prop} (h0 : ∀ v g, K (v, g) → xK X (some (.int v)) g) : J Y_X12_canBe X 0 0 84 [none, none, none, none, none] [.int s0] g (f_X12_canBe_84 N s0 g) K := by
  unfold f_X12_canBe_84
  exact J_retZ (show Dc Y_X12_canBe 84 (.ireturn) 1 85 from ⟨by decide +kernel, rfl⟩) rfl (h0 _ _) (by decide) (by decide)

theorem j_X12_canBe_75 {X : ZX} (N : Nat) (x2 : Int32)   (g : ZS) {K : (Int32 × ZS) → Prop} (h0 : ∀ v g, K (v, g) → xK X (some (.int v)) g) : J Y_X12_canBe X 0 0 75 [none, none, some (.int x2), none, none] [] g (f_X12_canBe_75 N x2 g) K := by
  unfold f_X12_canBe_75
  refine J_iload_n rfl rfl (show Dc Y_X12_canBe 75 (.iload_n 2) 1 76 from ⟨by decide +kernel, rfl⟩) ?_
  refine J_if_ne (tg := 83) (show Dc Y_X12_canBe 76 (.ifCond .ne 7) 3 79 from ⟨by decide +kernel, rfl⟩) (by decide) (fun h => ?_) (fun h => ?_)
  · refine J_iconst (0 : Int32) rfl (show Dc Y_X12_canBe 83 (.iconst 0) 1 84 from ⟨by decide +kernel, rfl⟩) ?_
    refine J_mask [false, false, false, false, false] ?_
    exact j_X12_canBe_84 N (0 : Int32) g h0
  · refine J_iconst (1 : Int32) rfl (show Dc Y_X12_canBe 79 (.iconst 1) 1 80 from ⟨by decide +kernel, rfl⟩) ?_
    refine J_goto (tg := 84) (show Dc Y_X12_canBe 80 (.goto 4) 3 83 from ⟨by decide +kernel, rfl⟩) (by decide) ?_
    refine J_mask [false, false, false, false, false] ?_
    exact j_X12_canBe_84 N (1 : Int32) g h0

theorem j_X12_canBe_11 {X : ZX} (N : Nat) (x0 : Nat) (x2 : Int32) (x3 : Int32)   (g : ZS) {K : ((Int32 × Int32) ⊕ (Int32 × ZS)) → Prop} (h0 : ∀ v g, K (.inr (v, g)) → xK X (some (.int v)) g) (hL11 : ∀ s, K (.inl s) → zG Y_X12_canBe X 0 0 11 [some (.ref x0), none, some (.int s.1), some (.int s.2), none] [] g) : J Y_X12_canBe X 0 0 11 [some (.ref x0), none, some (.int x2), some (.int x3), none] [] g (f_X12_canBe_11 N x0 x2 x3 g) K := by
  unfold f_X12_canBe_11
  refine J_iload_n rfl rfl (show Dc Y_X12_canBe 11 (.iload_n 2) 1 12 from ⟨by decide +kernel, rfl⟩) ?_
  refine J_if_eq (tg := 75) (show Dc Y_X12_canBe 12 (.ifCond .eq 63) 3 15 from ⟨by decide +kernel, rfl⟩) (by decide) (fun h => ?_) (fun h => ?_)
  · refine J_mask [false, false, true, false, false] ?_
    refine J_map (f := Sum.inr) (fun _ h => h) ?_
    exact j_X12_canBe_75 (K := fun o => K (.inr o)) N x2 g h0
  · refine J_iload_n rfl rfl (show Dc Y_X12_canBe 15 (.iload_n 3) 1 16 from ⟨by decide +kernel, rfl⟩) ?_
    refine J_if_eq (tg := 75) (show Dc Y_X12_canBe 16 (.ifCond .eq 59) 3 19 from ⟨by decide +kernel, rfl⟩) (by decide) (fun h => ?_) (fun h => ?_)
    · refine J_mask [false, false, true, false, false] ?_
      refine J_map (f := Sum.inr) (fun _ h => h) ?_
      exact j_X12_canBe_75 (K := fun o => K (.inr o)) N x2 g h0
    · refine J_iconst (0 : Int32) rfl (show Dc Y_X12_canBe 19 (.iconst 0) 1 20 from ⟨by decide +kernel, rfl⟩) ?_
      refine J_istore_n [some (.ref x0), none, some (.int x2), some (.int (0 : Int32)), none] (show Dc Y_X12_canBe 20 (.istore_n 3) 1 21 from ⟨by decide +kernel, rfl⟩) rfl (by decide) rfl rfl ?_
      refine J_iconst (0 : Int32) rfl (show Dc Y_X12_canBe 21 (.iconst 0) 1 22 from ⟨by decide +kernel, rfl⟩) ?_
      refine J_istore [some (.ref x0), none, some (.int x2), some (.int (0 : Int32)), some (.int (0 : Int32))] (show Dc Y_X12_canBe 22 (.istore 4) 2 24 from ⟨by decide +kernel, rfl⟩) (by decide) rfl rfl ?_
      exact J_loop (X := X) (K := K) (uc := fun _ => 0) (us := fun _ => 0) (lf := fun s => [some (.ref x0), none, some (.int s.1), some (.int s.2.1), some (.int s.2.2)]) (gf := fun s => g) (fun s => j_X12_canBe_24 (K := zKl Y_X12_canBe X 24 (fun _ => 0) (fun _ => 0) (fun s => [some (.ref x0), none, some (.int s.1), some (.int s.2.1), some (.int s.2.2)]) (fun s => g) K) N x0 s.1 s.2.1 s.2.2 g h0 hL11 (fun s h => h)) N (x2, (0 : Int32), (0 : Int32))

theorem j_X12_canBe {X : ZX} (N : Nat) (x0 : Nat) (x1 : Int32)   (g : ZS) {K : (Int32 × ZS) → Prop} (h0 : ∀ v g, K (v, g) → xK X (some (.int v)) g) : J Y_X12_canBe X 0 0 0 [some (.ref x0), some (.int x1), none, none, none] [] g (f_X12_canBe N x0 x1 g) K := by
  unfold f_X12_canBe
  refine J_aload_n rfl rfl (show Dc Y_X12_canBe 0 (.aload_n 0) 1 1 from ⟨by decide +kernel, rfl⟩) ?_
  refine J_iload_n rfl rfl (show Dc Y_X12_canBe 1 (.iload_n 1) 1 2 from ⟨by decide +kernel, rfl⟩) ?_
  refine J_callVv (fun r => r) (show Dc Y_X12_canBe 2 (.invokevirtual 357) 3 5 from ⟨by decide +kernel, rfl⟩) w_m_RX12_357 w_in_X12_layBehind rfl w_se_X12_layBehind w_cw_X12_layBehind (c_X12_layBehind N x0 x1 g) rfl rfl (by decide) (Nat.le_of_ble_eq_true rfl) (by decide) (by decide) (fun g1 => ?_)
  refine J_sipush (255 : Int32) rfl (show Dc Y_X12_canBe 5 (.sipush 255) 3 8 from ⟨by decide +kernel, rfl⟩) ?_
  refine J_istore_n [some (.ref x0), some (.int x1), some (.int (255 : Int32)), none, none] (show Dc Y_X12_canBe 8 (.istore_n 2) 1 9 from ⟨by decide +kernel, rfl⟩) rfl (by decide) rfl rfl ?_
  refine J_iconst (1 : Int32) rfl (show Dc Y_X12_canBe 9 (.iconst 1) 1 10 from ⟨by decide +kernel, rfl⟩) ?_
  refine J_istore_n [some (.ref x0), some (.int x1), some (.int (255 : Int32)), some (.int (1 : Int32)), none] (show Dc Y_X12_canBe 10 (.istore_n 3) 1 11 from ⟨by decide +kernel, rfl⟩) rfl (by decide) rfl rfl ?_
  refine J_mask [true, false, true, true, false] ?_
  exact J_loop (X := X) (K := K) (uc := fun _ => 0) (us := fun _ => 0) (lf := fun s => [some (.ref x0), none, some (.int s.1), some (.int s.2), none]) (gf := fun s => g1) (fun s => j_X12_canBe_11 (K := zKl Y_X12_canBe X 11 (fun _ => 0) (fun _ => 0) (fun s => [some (.ref x0), none, some (.int s.1), some (.int s.2), none]) (fun s => g1) K) N x0 s.1 s.2 g1 h0 (fun s h => h)) N ((255 : Int32), (1 : Int32))

theorem c_X12_canBe {l : Launch} {D : ZD} {B0 : Nat} (N : Nat) (x0 : Nat) (x1 : Int32) (g : ZS) : ∀ r, f_X12_canBe N x0 x1 g = some r → zCt l D B0 yX12_canBe Y_X12_canBe [.ref x0, .int x1] g (some (.int r.1)) r.2 :=
  zCt_ofF (vo := fun r => some (.int r.1)) (so := fun r => r.2) (by decide +kernel) rfl (fun h => by cases h) rfl (Nat.le_of_ble_eq_true rfl) (fun X => j_X12_canBe N x0 x1 g (fun _ _ h => h))

theorem j_X12_drop_47 {X : ZX} (N : Nat) (x0 : Nat) (x1 : Int32) (x2 : Int32)   (g : ZS) {K : ((Int32 × Int32 × ZS) ⊕ (Int32 × ZS)) → Prop} (h0 : ∀ v g, K (.inr (v, g)) → xK X (some (.int v)) g) (hL16 : ∀ s, K (.inl s) → zG Y_X12_drop X 0 0 16 [some (.ref x0), some (.int s.1), some (.int s.2.1)] [] s.2.2) : J Y_X12_drop X 0 0 47 [some (.ref x0), some (.int x1), some (.int x2)] [] g (f_X12_drop_47 N x0 x1 x2 g) K := by
  unfold f_X12_drop_47
  refine J_iinc (1 : Int32) [some (.ref x0), some (.int x1), some (.int (x2 + (1 : Int32)))] (show Dc Y_X12_drop 47 (.iinc 2 1) 3 50 from ⟨by decide +kernel, rfl⟩) rfl rfl (by decide) rfl rfl ?_
  refine J_goto (tg := 16) (show Dc Y_X12_drop 50 (.goto (-34)) 3 53 from ⟨by decide +kernel, rfl⟩) (by decide) ?_
  exact J_leaf (fun h => hL16 (x1, x2 + (1 : Int32), g) h)

theorem j_X12_drop_16 {X : ZX} (N : Nat) (x0 : Nat) (x1 : Int32) (x2 : Int32)   (g : ZS) {K : ((Int32 × Int32 × ZS) ⊕ (Int32 × ZS)) → Prop} (h0 : ∀ v g, K (.inr (v, g)) → xK X (some (.int v)) g) (hL16 : ∀ s, K (.inl s) → zG Y_X12_drop X 0 0 16 [some (.ref x0), some (.int s.1), some (.int s.2.1)] [] s.2.2) : J Y_X12_drop X 0 0 16 [some (.ref x0), some (.int x1), some (.int x2)] [] g (f_X12_drop_16 N x0 x1 x2 g) K := by
  unfold f_X12_drop_16
  refine J_iload_n rfl rfl (show Dc Y_X12_drop 16 (.iload_n 2) 1 17 from ⟨by decide +kernel, rfl⟩) ?_
  refine J_iconst (1 : Int32) rfl (show Dc Y_X12_drop 17 (.iconst 1) 1 18 from ⟨by decide +kernel, rfl⟩) ?_
  refine J_aload_n rfl rfl (show Dc Y_X12_drop 18 (.aload_n 0) 1 19 from ⟨by decide +kernel, rfl⟩) ?_
  refine J_getI (show Dc Y_X12_drop 19 (.getfield 351) 3 22 from ⟨by decide +kernel, rfl⟩) w_f_RX12_351 rfl (fun v1 => ?_)
  refine J_ishl (show Dc Y_X12_drop 22 (.ishl) 1 23 from ⟨by decide +kernel, rfl⟩) ?_
  refine J_icmp_ge (tg := 53) (show Dc Y_X12_drop 23 (.if_icmp .ge 30) 3 26 from ⟨by decide +kernel, rfl⟩) (by decide) (fun h => ?_) (fun h => ?_)
  · refine J_map (f := Sum.inr) (fun _ h => h) ?_
    refine J_aload_n rfl rfl (show Dc Y_X12_drop 53 (.aload_n 0) 1 54 from ⟨by decide +kernel, rfl⟩) ?_
    refine J_iconst (0 : Int32) rfl (show Dc Y_X12_drop 54 (.iconst 0) 1 55 from ⟨by decide +kernel, rfl⟩) ?_
    refine J_putI (show Dc Y_X12_drop 55 (.putfield 113) 3 58 from ⟨by decide +kernel, rfl⟩) w_f_RX12_113 rfl rfl (fun g2 => ?_) (fun h => by cases h)
    refine J_aload_n rfl rfl (show Dc Y_X12_drop 58 (.aload_n 0) 1 59 from ⟨by decide +kernel, rfl⟩) ?_
    refine J_iload_n rfl rfl (show Dc Y_X12_drop 59 (.iload_n 1) 1 60 from ⟨by decide +kernel, rfl⟩) ?_
    refine J_i2l (show Dc Y_X12_drop 60 (.i2l) 1 61 from ⟨by decide +kernel, rfl⟩) ?_
    refine J_callVv (fun r => r) (show Dc Y_X12_drop 61 (.invokevirtual 274) 3 64 from ⟨by decide +kernel, rfl⟩) w_m_RX12_274 w_in_X12_tell rfl w_se_X12_tell w_cw_X12_tell (c_X12_tell x0 x1.toInt64 g2) rfl rfl (by decide) (Nat.le_of_ble_eq_true rfl) (by decide) (by decide) (fun g3 => ?_)
    refine J_iload_n rfl rfl (show Dc Y_X12_drop 64 (.iload_n 1) 1 65 from ⟨by decide +kernel, rfl⟩) ?_
    refine J_callSi (fun r => r) (fun _ => g3) (show Dc Y_X12_drop 65 (.invokestatic 269) 3 68 from ⟨by decide +kernel, rfl⟩) w_m_RX12_269 w_st_J6_bitCount_0f7a4 w_cw_J6_bitCount_0f7a4 (c_J6_bitCount_0f7a4 x1 g3) rfl rfl (by decide) (Nat.le_of_ble_eq_true rfl) (by decide) (by decide) (fun v4 => ?_)
    exact J_reti (show Dc Y_X12_drop 68 (.ireturn) 1 69 from ⟨by decide +kernel, rfl⟩) rfl (h0 _ _) (by decide) (by decide)
  · refine J_iload_n rfl rfl (show Dc Y_X12_drop 26 (.iload_n 2) 1 27 from ⟨by decide +kernel, rfl⟩) ?_
    refine J_callSi (fun r => r) (fun _ => g) (show Dc Y_X12_drop 27 (.invokestatic 269) 3 30 from ⟨by decide +kernel, rfl⟩) w_m_RX12_269 w_st_J6_bitCount_0f7a4 w_cw_J6_bitCount_0f7a4 (c_J6_bitCount_0f7a4 x2 g) rfl rfl (by decide) (Nat.le_of_ble_eq_true rfl) (by decide) (by decide) (fun v5 => ?_)
    refine J_iload_n rfl rfl (show Dc Y_X12_drop 30 (.iload_n 1) 1 31 from ⟨by decide +kernel, rfl⟩) ?_
    refine J_callSi (fun r => r) (fun _ => g) (show Dc Y_X12_drop 31 (.invokestatic 269) 3 34 from ⟨by decide +kernel, rfl⟩) w_m_RX12_269 w_st_J6_bitCount_0f7a4 w_cw_J6_bitCount_0f7a4 (c_J6_bitCount_0f7a4 x1 g) rfl rfl (by decide) (Nat.le_of_ble_eq_true rfl) (by decide) (by decide) (fun v6 => ?_)
    refine J_icmp_ge (tg := 47) (show Dc Y_X12_drop 34 (.if_icmp .ge 13) 3 37 from ⟨by decide +kernel, rfl⟩) (by decide) (fun h => ?_) (fun h => ?_)
    · exact j_X12_drop_47 N x0 x1 x2 g h0 hL16
    · refine J_aload_n rfl rfl (show Dc Y_X12_drop 37 (.aload_n 0) 1 38 from ⟨by decide +kernel, rfl⟩) ?_
      refine J_iload_n rfl rfl (show Dc Y_X12_drop 38 (.iload_n 2) 1 39 from ⟨by decide +kernel, rfl⟩) ?_
      refine J_callVi (fun r => r.1) (fun r => r.2) (show Dc Y_X12_drop 39 (.invokevirtual 360) 3 42 from ⟨by decide +kernel, rfl⟩) w_m_RX12_360 w_in_X12_canBe rfl w_se_X12_canBe w_cw_X12_canBe (c_X12_canBe N x0 x2 g) rfl rfl (by decide) (Nat.le_of_ble_eq_true rfl) (by decide) (by decide) (fun r7 => ?_)
      refine J_if_eq (tg := 47) (show Dc Y_X12_drop 42 (.ifCond .eq 5) 3 45 from ⟨by decide +kernel, rfl⟩) (by decide) (fun h => ?_) (fun h => ?_)
      · exact j_X12_drop_47 N x0 x1 x2 r7.2 h0 hL16
      · refine J_iload_n rfl rfl (show Dc Y_X12_drop 45 (.iload_n 2) 1 46 from ⟨by decide +kernel, rfl⟩) ?_
        refine J_istore_n [some (.ref x0), some (.int x2), some (.int x2)] (show Dc Y_X12_drop 46 (.istore_n 1) 1 47 from ⟨by decide +kernel, rfl⟩) rfl (by decide) rfl rfl ?_
        exact j_X12_drop_47 N x0 x2 x2 r7.2 h0 hL16

theorem j_X12_drop {X : ZX} (N : Nat) (x0 : Nat)   (g : ZS) {K : (Int32 × ZS) → Prop} (h0 : ∀ v g, K (v, g) → xK X (some (.int v)) g) : J Y_X12_drop X 0 0 0 [some (.ref x0), none, none] [] g (f_X12_drop N x0 g) K := by
  unfold f_X12_drop
  refine J_aload_n rfl rfl (show Dc Y_X12_drop 0 (.aload_n 0) 1 1 from ⟨by decide +kernel, rfl⟩) ?_
  refine J_iconst (0 : Int32) rfl (show Dc Y_X12_drop 1 (.iconst 0) 1 2 from ⟨by decide +kernel, rfl⟩) ?_
  refine J_putI (show Dc Y_X12_drop 2 (.putfield 109) 3 5 from ⟨by decide +kernel, rfl⟩) w_f_RX12_109 rfl rfl (fun g1 => ?_) (fun h => by cases h)
  refine J_iconst (1 : Int32) rfl (show Dc Y_X12_drop 5 (.iconst 1) 1 6 from ⟨by decide +kernel, rfl⟩) ?_
  refine J_aload_n rfl rfl (show Dc Y_X12_drop 6 (.aload_n 0) 1 7 from ⟨by decide +kernel, rfl⟩) ?_
  refine J_getI (show Dc Y_X12_drop 7 (.getfield 351) 3 10 from ⟨by decide +kernel, rfl⟩) w_f_RX12_351 rfl (fun v2 => ?_)
  refine J_ishl (show Dc Y_X12_drop 10 (.ishl) 1 11 from ⟨by decide +kernel, rfl⟩) ?_
  refine J_iconst (1 : Int32) rfl (show Dc Y_X12_drop 11 (.iconst 1) 1 12 from ⟨by decide +kernel, rfl⟩) ?_
  refine J_isub (show Dc Y_X12_drop 12 (.isub) 1 13 from ⟨by decide +kernel, rfl⟩) ?_
  refine J_istore_n [some (.ref x0), some (.int (((1 : Int32) <<< (v2 &&& 31)) - (1 : Int32))), none] (show Dc Y_X12_drop 13 (.istore_n 1) 1 14 from ⟨by decide +kernel, rfl⟩) rfl (by decide) rfl rfl ?_
  refine J_iconst (0 : Int32) rfl (show Dc Y_X12_drop 14 (.iconst 0) 1 15 from ⟨by decide +kernel, rfl⟩) ?_
  refine J_istore_n [some (.ref x0), some (.int (((1 : Int32) <<< (v2 &&& 31)) - (1 : Int32))), some (.int (0 : Int32))] (show Dc Y_X12_drop 15 (.istore_n 2) 1 16 from ⟨by decide +kernel, rfl⟩) rfl (by decide) rfl rfl ?_
  exact J_loop (X := X) (K := K) (uc := fun _ => 0) (us := fun _ => 0) (lf := fun s => [some (.ref x0), some (.int s.1), some (.int s.2.1)]) (gf := fun s => s.2.2) (fun s => j_X12_drop_16 (K := zKl Y_X12_drop X 16 (fun _ => 0) (fun _ => 0) (fun s => [some (.ref x0), some (.int s.1), some (.int s.2.1)]) (fun s => s.2.2) K) N x0 s.1 s.2.1 s.2.2 h0 (fun s h => h)) N (((1 : Int32) <<< (v2 &&& 31)) - (1 : Int32), (0 : Int32), g1)

theorem c_X12_drop {l : Launch} {D : ZD} {B0 : Nat} (N : Nat) (x0 : Nat) (g : ZS) : ∀ r, f_X12_drop N x0 g = some r → zCt l D B0 yX12_drop Y_X12_drop [.ref x0] g (some (.int r.1)) r.2 :=
  zCt_ofF (vo := fun r => some (.int r.1)) (so := fun r => r.2) (by decide +kernel) rfl (fun h => by cases h) rfl (Nat.le_of_ble_eq_true rfl) (fun X => j_X12_drop N x0 g (fun _ _ h => h))

theorem j_X11_playCounsels_151 {X : ZX} (N : Nat) (x0 : Nat) (x1 : Int32) (x3 : Int32) (x4 : Int32) (s0 : Int32)  (g : ZS) {K : ((Int32 × Int32 × ZS) ⊕ ((Int32 × Int32 × ZS) ⊕ (Int32 × ZS))) → Prop} (h0 : ∀ v g, K (.inr (.inr (v, g))) → xK X (some (.int v)) g) (hL53 : ∀ s, K (.inr (.inl s)) → zG Y_X11_playCounsels X 0 0 53 [some (.ref x0), some (.int x1), some (.int s.1), some (.int s.2.1), none, none, none] [] s.2.2) (hL61 : ∀ s, K (.inl s) → zG Y_X11_playCounsels X 0 0 61 [some (.ref x0), some (.int x1), some (.int s.1), some (.int x3), some (.int s.2.1), none, none] [] s.2.2) : J Y_X11_playCounsels X 0 0 151 [some (.ref x0), some (.int x1), none, some (.int x3), some (.int x4), none, none] [.int s0] g (f_X11_playCounsels_151 N x0 x1 x3 x4 s0 g) K := by
  unfold f_X11_playCounsels_151
  refine J_istore_n [some (.ref x0), some (.int x1), some (.int s0), some (.int x3), some (.int x4), none, none] (show Dc Y_X11_playCounsels 151 (.istore_n 2) 1 152 from ⟨by decide +kernel, rfl⟩) rfl (by decide) rfl rfl ?_
  refine J_iinc (1 : Int32) [some (.ref x0), some (.int x1), some (.int s0), some (.int x3), some (.int (x4 + (1 : Int32))), none, none] (show Dc Y_X11_playCounsels 152 (.iinc 4 1) 3 155 from ⟨by decide +kernel, rfl⟩) rfl rfl (by decide) rfl rfl ?_
  refine J_goto (tg := 61) (show Dc Y_X11_playCounsels 155 (.goto (-94)) 3 158 from ⟨by decide +kernel, rfl⟩) (by decide) ?_
  exact J_leaf (fun h => hL61 (s0, x4 + (1 : Int32), g) h)

theorem j_X11_playCounsels_61 {X : ZX} (N : Nat) (x0 : Nat) (x1 : Int32) (x2 : Int32) (x3 : Int32) (x4 : Int32)   (g : ZS) {K : ((Int32 × Int32 × ZS) ⊕ ((Int32 × Int32 × ZS) ⊕ (Int32 × ZS))) → Prop} (h0 : ∀ v g, K (.inr (.inr (v, g))) → xK X (some (.int v)) g) (hL53 : ∀ s, K (.inr (.inl s)) → zG Y_X11_playCounsels X 0 0 53 [some (.ref x0), some (.int x1), some (.int s.1), some (.int s.2.1), none, none, none] [] s.2.2) (hL61 : ∀ s, K (.inl s) → zG Y_X11_playCounsels X 0 0 61 [some (.ref x0), some (.int x1), some (.int s.1), some (.int x3), some (.int s.2.1), none, none] [] s.2.2) : J Y_X11_playCounsels X 0 0 61 [some (.ref x0), some (.int x1), some (.int x2), some (.int x3), some (.int x4), none, none] [] g (f_X11_playCounsels_61 N x0 x1 x2 x3 x4 g) K := by
  unfold f_X11_playCounsels_61
  refine J_iload rfl (show Dc Y_X11_playCounsels 61 (.iload 4) 2 63 from ⟨by decide +kernel, rfl⟩) ?_
  refine J_iload_n rfl rfl (show Dc Y_X11_playCounsels 63 (.iload_n 3) 1 64 from ⟨by decide +kernel, rfl⟩) ?_
  refine J_iadd (show Dc Y_X11_playCounsels 64 (.iadd) 1 65 from ⟨by decide +kernel, rfl⟩) ?_
  refine J_iload_n rfl rfl (show Dc Y_X11_playCounsels 65 (.iload_n 1) 1 66 from ⟨by decide +kernel, rfl⟩) ?_
  refine J_icmp_gt (tg := 158) (show Dc Y_X11_playCounsels 66 (.if_icmp .gt 92) 3 69 from ⟨by decide +kernel, rfl⟩) (by decide) (fun h => ?_) (fun h => ?_)
  · refine J_map (f := Sum.inr) (fun _ h => h) ?_
    refine J_iinc (1 : Int32) [some (.ref x0), some (.int x1), some (.int x2), some (.int (x3 + (1 : Int32))), some (.int x4), none, none] (show Dc Y_X11_playCounsels 158 (.iinc 3 1) 3 161 from ⟨by decide +kernel, rfl⟩) rfl rfl (by decide) rfl rfl ?_
    refine J_goto (tg := 53) (show Dc Y_X11_playCounsels 161 (.goto (-108)) 3 164 from ⟨by decide +kernel, rfl⟩) (by decide) ?_
    refine J_mask [true, true, true, true, false, false, false] ?_
    exact J_leaf (fun h => hL53 (x2, x3 + (1 : Int32), g) h)
  · refine J_aload_n rfl rfl (show Dc Y_X11_playCounsels 69 (.aload_n 0) 1 70 from ⟨by decide +kernel, rfl⟩) ?_
    refine J_getR (show Dc Y_X11_playCounsels 70 (.getfield 30) 3 73 from ⟨by decide +kernel, rfl⟩) w_f_RX11_30 rfl (fun v1 => ?_)
    refine J_aload_n rfl rfl (show Dc Y_X11_playCounsels 73 (.aload_n 0) 1 74 from ⟨by decide +kernel, rfl⟩) ?_
    refine J_getR (show Dc Y_X11_playCounsels 74 (.getfield 79) 3 77 from ⟨by decide +kernel, rfl⟩) w_f_RX11_79 rfl (fun v2 => ?_)
    refine J_getR (show Dc Y_X11_playCounsels 77 (.getfield 329) 3 80 from ⟨by decide +kernel, rfl⟩) w_f_RX11_329 rfl (fun v3 => ?_)
    refine J_iload rfl (show Dc Y_X11_playCounsels 80 (.iload 4) 2 82 from ⟨by decide +kernel, rfl⟩) ?_
    refine J_iald (show Dc Y_X11_playCounsels 82 (.iaload) 1 83 from ⟨by decide +kernel, rfl⟩) (fun v4 => ?_)
    refine J_iald (show Dc Y_X11_playCounsels 83 (.iaload) 1 84 from ⟨by decide +kernel, rfl⟩) (fun v5 => ?_)
    refine J_aload_n rfl rfl (show Dc Y_X11_playCounsels 84 (.aload_n 0) 1 85 from ⟨by decide +kernel, rfl⟩) ?_
    refine J_getR (show Dc Y_X11_playCounsels 85 (.getfield 103) 3 88 from ⟨by decide +kernel, rfl⟩) w_f_RX11_103 rfl (fun v6 => ?_)
    refine J_iload rfl (show Dc Y_X11_playCounsels 88 (.iload 4) 2 90 from ⟨by decide +kernel, rfl⟩) ?_
    refine J_iconst (1 : Int32) rfl (show Dc Y_X11_playCounsels 90 (.iconst 1) 1 91 from ⟨by decide +kernel, rfl⟩) ?_
    refine J_iadd (show Dc Y_X11_playCounsels 91 (.iadd) 1 92 from ⟨by decide +kernel, rfl⟩) ?_
    refine J_iald (show Dc Y_X11_playCounsels 92 (.iaload) 1 93 from ⟨by decide +kernel, rfl⟩) (fun v7 => ?_)
    refine J_isub (show Dc Y_X11_playCounsels 93 (.isub) 1 94 from ⟨by decide +kernel, rfl⟩) ?_
    refine J_istore [some (.ref x0), some (.int x1), some (.int x2), some (.int x3), some (.int x4), some (.int (v5 - v7)), none] (show Dc Y_X11_playCounsels 94 (.istore 5) 2 96 from ⟨by decide +kernel, rfl⟩) (by decide) rfl rfl ?_
    refine J_aload_n rfl rfl (show Dc Y_X11_playCounsels 96 (.aload_n 0) 1 97 from ⟨by decide +kernel, rfl⟩) ?_
    refine J_getR (show Dc Y_X11_playCounsels 97 (.getfield 30) 3 100 from ⟨by decide +kernel, rfl⟩) w_f_RX11_30 rfl (fun v8 => ?_)
    refine J_aload_n rfl rfl (show Dc Y_X11_playCounsels 100 (.aload_n 0) 1 101 from ⟨by decide +kernel, rfl⟩) ?_
    refine J_getR (show Dc Y_X11_playCounsels 101 (.getfield 79) 3 104 from ⟨by decide +kernel, rfl⟩) w_f_RX11_79 rfl (fun v9 => ?_)
    refine J_getR (show Dc Y_X11_playCounsels 104 (.getfield 329) 3 107 from ⟨by decide +kernel, rfl⟩) w_f_RX11_329 rfl (fun v10 => ?_)
    refine J_iload rfl (show Dc Y_X11_playCounsels 107 (.iload 4) 2 109 from ⟨by decide +kernel, rfl⟩) ?_
    refine J_iload_n rfl rfl (show Dc Y_X11_playCounsels 109 (.iload_n 3) 1 110 from ⟨by decide +kernel, rfl⟩) ?_
    refine J_iadd (show Dc Y_X11_playCounsels 110 (.iadd) 1 111 from ⟨by decide +kernel, rfl⟩) ?_
    refine J_iconst (1 : Int32) rfl (show Dc Y_X11_playCounsels 111 (.iconst 1) 1 112 from ⟨by decide +kernel, rfl⟩) ?_
    refine J_isub (show Dc Y_X11_playCounsels 112 (.isub) 1 113 from ⟨by decide +kernel, rfl⟩) ?_
    refine J_iald (show Dc Y_X11_playCounsels 113 (.iaload) 1 114 from ⟨by decide +kernel, rfl⟩) (fun v11 => ?_)
    refine J_iald (show Dc Y_X11_playCounsels 114 (.iaload) 1 115 from ⟨by decide +kernel, rfl⟩) (fun v12 => ?_)
    refine J_aload_n rfl rfl (show Dc Y_X11_playCounsels 115 (.aload_n 0) 1 116 from ⟨by decide +kernel, rfl⟩) ?_
    refine J_getR (show Dc Y_X11_playCounsels 116 (.getfield 103) 3 119 from ⟨by decide +kernel, rfl⟩) w_f_RX11_103 rfl (fun v13 => ?_)
    refine J_iload rfl (show Dc Y_X11_playCounsels 119 (.iload 4) 2 121 from ⟨by decide +kernel, rfl⟩) ?_
    refine J_iald (show Dc Y_X11_playCounsels 121 (.iaload) 1 122 from ⟨by decide +kernel, rfl⟩) (fun v14 => ?_)
    refine J_isub (show Dc Y_X11_playCounsels 122 (.isub) 1 123 from ⟨by decide +kernel, rfl⟩) ?_
    refine J_istore [some (.ref x0), some (.int x1), some (.int x2), some (.int x3), some (.int x4), some (.int (v5 - v7)), some (.int (v12 - v14))] (show Dc Y_X11_playCounsels 123 (.istore 6) 2 125 from ⟨by decide +kernel, rfl⟩) (by decide) rfl rfl ?_
    refine J_aload_n rfl rfl (show Dc Y_X11_playCounsels 125 (.aload_n 0) 1 126 from ⟨by decide +kernel, rfl⟩) ?_
    refine J_getR (show Dc Y_X11_playCounsels 126 (.getfield 103) 3 129 from ⟨by decide +kernel, rfl⟩) w_f_RX11_103 rfl (fun v15 => ?_)
    refine J_iload rfl (show Dc Y_X11_playCounsels 129 (.iload 4) 2 131 from ⟨by decide +kernel, rfl⟩) ?_
    refine J_iload rfl (show Dc Y_X11_playCounsels 131 (.iload 5) 2 133 from ⟨by decide +kernel, rfl⟩) ?_
    refine J_iload rfl (show Dc Y_X11_playCounsels 133 (.iload 6) 2 135 from ⟨by decide +kernel, rfl⟩) ?_
    refine J_callSi (fun r => r) (fun _ => g) (show Dc Y_X11_playCounsels 135 (.invokestatic 238) 3 138 from ⟨by decide +kernel, rfl⟩) w_m_RX11_238 w_st_J9_max_7cf53 w_cw_J9_max_7cf53 (c_J9_max_7cf53 (v5 - v7) (v12 - v14) g) rfl rfl (by decide) (Nat.le_of_ble_eq_true rfl) (by decide) (by decide) (fun v16 => ?_)
    refine J_iast (show Dc Y_X11_playCounsels 138 (.iastore) 1 139 from ⟨by decide +kernel, rfl⟩) (fun g17 => ?_)
    refine J_iload rfl (show Dc Y_X11_playCounsels 139 (.iload 6) 2 141 from ⟨by decide +kernel, rfl⟩) ?_
    refine J_iload rfl (show Dc Y_X11_playCounsels 141 (.iload 5) 2 143 from ⟨by decide +kernel, rfl⟩) ?_
    refine J_icmp_le (tg := 150) (show Dc Y_X11_playCounsels 143 (.if_icmp .le 7) 3 146 from ⟨by decide +kernel, rfl⟩) (by decide) (fun h => ?_) (fun h => ?_)
    · refine J_iconst (0 : Int32) rfl (show Dc Y_X11_playCounsels 150 (.iconst 0) 1 151 from ⟨by decide +kernel, rfl⟩) ?_
      refine J_mask [true, true, false, true, true, false, false] ?_
      exact j_X11_playCounsels_151 N x0 x1 x3 x4 (0 : Int32) g17 h0 hL53 hL61
    · refine J_iconst (1 : Int32) rfl (show Dc Y_X11_playCounsels 146 (.iconst 1) 1 147 from ⟨by decide +kernel, rfl⟩) ?_
      refine J_goto (tg := 151) (show Dc Y_X11_playCounsels 147 (.goto 4) 3 150 from ⟨by decide +kernel, rfl⟩) (by decide) ?_
      refine J_mask [true, true, false, true, true, false, false] ?_
      exact j_X11_playCounsels_151 N x0 x1 x3 x4 (1 : Int32) g17 h0 hL53 hL61

theorem j_X11_playCounsels_187 {X : ZX} (N : Nat)  (s0 : Int32)  (g : ZS) {K : (Int32 × ZS) → Prop} (h0 : ∀ v g, K (v, g) → xK X (some (.int v)) g) : J Y_X11_playCounsels X 0 0 187 [none, none, none, none, none, none, none] [.int s0] g (f_X11_playCounsels_187 N s0 g) K := by
  unfold f_X11_playCounsels_187
  exact J_reti (show Dc Y_X11_playCounsels 187 (.ireturn) 1 188 from ⟨by decide +kernel, rfl⟩) rfl (h0 _ _) (by decide) (by decide)

theorem j_X11_playCounsels_53 {X : ZX} (N : Nat) (x0 : Nat) (x1 : Int32) (x2 : Int32) (x3 : Int32)   (g : ZS) {K : ((Int32 × Int32 × ZS) ⊕ (Int32 × ZS)) → Prop} (h0 : ∀ v g, K (.inr (v, g)) → xK X (some (.int v)) g) (hL53 : ∀ s, K (.inl s) → zG Y_X11_playCounsels X 0 0 53 [some (.ref x0), some (.int x1), some (.int s.1), some (.int s.2.1), none, none, none] [] s.2.2) : J Y_X11_playCounsels X 0 0 53 [some (.ref x0), some (.int x1), some (.int x2), some (.int x3), none, none, none] [] g (f_X11_playCounsels_53 N x0 x1 x2 x3 g) K := by
  unfold f_X11_playCounsels_53
  refine J_iload_n rfl rfl (show Dc Y_X11_playCounsels 53 (.iload_n 3) 1 54 from ⟨by decide +kernel, rfl⟩) ?_
  refine J_iload_n rfl rfl (show Dc Y_X11_playCounsels 54 (.iload_n 1) 1 55 from ⟨by decide +kernel, rfl⟩) ?_
  refine J_icmp_gt (tg := 164) (show Dc Y_X11_playCounsels 55 (.if_icmp .gt 109) 3 58 from ⟨by decide +kernel, rfl⟩) (by decide) (fun h => ?_) (fun h => ?_)
  · refine J_map (f := Sum.inr) (fun _ h => h) ?_
    refine J_aload_n rfl rfl (show Dc Y_X11_playCounsels 164 (.aload_n 0) 1 165 from ⟨by decide +kernel, rfl⟩) ?_
    refine J_getR (show Dc Y_X11_playCounsels 165 (.getfield 19) 3 168 from ⟨by decide +kernel, rfl⟩) w_f_RX11_19 rfl (fun v1 => ?_)
    refine J_iload_n rfl rfl (show Dc Y_X11_playCounsels 168 (.iload_n 2) 1 169 from ⟨by decide +kernel, rfl⟩) ?_
    refine J_i2l (show Dc Y_X11_playCounsels 169 (.i2l) 1 170 from ⟨by decide +kernel, rfl⟩) ?_
    refine J_callVv (fun r => r) (show Dc Y_X11_playCounsels 170 (.invokevirtual 339) 3 173 from ⟨by decide +kernel, rfl⟩) w_m_RX11_339 w_in_X9_only rfl w_se_X9_only w_cw_X9_only (c_X9_only v1 x2.toInt64 g) rfl rfl (by decide) (Nat.le_of_ble_eq_true rfl) (by decide) (by decide) (fun g2 => ?_)
    refine J_iload_n rfl rfl (show Dc Y_X11_playCounsels 173 (.iload_n 1) 1 174 from ⟨by decide +kernel, rfl⟩) ?_
    refine J_if_ne (tg := 181) (show Dc Y_X11_playCounsels 174 (.ifCond .ne 7) 3 177 from ⟨by decide +kernel, rfl⟩) (by decide) (fun h => ?_) (fun h => ?_)
    · refine J_aload_n rfl rfl (show Dc Y_X11_playCounsels 181 (.aload_n 0) 1 182 from ⟨by decide +kernel, rfl⟩) ?_
      refine J_getR (show Dc Y_X11_playCounsels 182 (.getfield 103) 3 185 from ⟨by decide +kernel, rfl⟩) w_f_RX11_103 rfl (fun v3 => ?_)
      refine J_iconst (0 : Int32) rfl (show Dc Y_X11_playCounsels 185 (.iconst 0) 1 186 from ⟨by decide +kernel, rfl⟩) ?_
      refine J_iald (show Dc Y_X11_playCounsels 186 (.iaload) 1 187 from ⟨by decide +kernel, rfl⟩) (fun v4 => ?_)
      refine J_mask [false, false, false, false, false, false, false] ?_
      exact j_X11_playCounsels_187 (K := fun o => K (.inr o)) N v4 g2 h0
    · refine J_iconst (0 : Int32) rfl (show Dc Y_X11_playCounsels 177 (.iconst 0) 1 178 from ⟨by decide +kernel, rfl⟩) ?_
      refine J_goto (tg := 187) (show Dc Y_X11_playCounsels 178 (.goto 9) 3 181 from ⟨by decide +kernel, rfl⟩) (by decide) ?_
      refine J_mask [false, false, false, false, false, false, false] ?_
      exact j_X11_playCounsels_187 (K := fun o => K (.inr o)) N (0 : Int32) g2 h0
  · refine J_iconst (0 : Int32) rfl (show Dc Y_X11_playCounsels 58 (.iconst 0) 1 59 from ⟨by decide +kernel, rfl⟩) ?_
    refine J_istore [some (.ref x0), some (.int x1), some (.int x2), some (.int x3), some (.int (0 : Int32)), none, none] (show Dc Y_X11_playCounsels 59 (.istore 4) 2 61 from ⟨by decide +kernel, rfl⟩) (by decide) rfl rfl ?_
    exact J_loop (X := X) (K := K) (uc := fun _ => 0) (us := fun _ => 0) (lf := fun s => [some (.ref x0), some (.int x1), some (.int s.1), some (.int x3), some (.int s.2.1), none, none]) (gf := fun s => s.2.2) (fun s => j_X11_playCounsels_61 (K := zKl Y_X11_playCounsels X 61 (fun _ => 0) (fun _ => 0) (fun s => [some (.ref x0), some (.int x1), some (.int s.1), some (.int x3), some (.int s.2.1), none, none]) (fun s => s.2.2) K) N x0 x1 s.1 x3 s.2.1 s.2.2 h0 hL53 (fun s h => h)) N (x2, (0 : Int32), g)

theorem j_X11_playCounsels_20 {X : ZX} (N : Nat) (x0 : Nat) (x1 : Int32) (x2 : Int32) (x3 : Int32)   (g : ZS) {K : ((Int32 × ZS) ⊕ (Int32 × ZS)) → Prop} (h0 : ∀ v g, K (.inr (v, g)) → xK X (some (.int v)) g) (hL20 : ∀ s, K (.inl s) → zG Y_X11_playCounsels X 0 0 20 [some (.ref x0), some (.int x1), some (.int x2), some (.int s.1), none, none, none] [] s.2) : J Y_X11_playCounsels X 0 0 20 [some (.ref x0), some (.int x1), some (.int x2), some (.int x3), none, none, none] [] g (f_X11_playCounsels_20 N x0 x1 x2 x3 g) K := by
  unfold f_X11_playCounsels_20
  refine J_iload_n rfl rfl (show Dc Y_X11_playCounsels 20 (.iload_n 3) 1 21 from ⟨by decide +kernel, rfl⟩) ?_
  refine J_iload_n rfl rfl (show Dc Y_X11_playCounsels 21 (.iload_n 1) 1 22 from ⟨by decide +kernel, rfl⟩) ?_
  refine J_icmp_ge (tg := 51) (show Dc Y_X11_playCounsels 22 (.if_icmp .ge 29) 3 25 from ⟨by decide +kernel, rfl⟩) (by decide) (fun h => ?_) (fun h => ?_)
  · refine J_map (f := Sum.inr) (fun _ h => h) ?_
    refine J_iconst (2 : Int32) rfl (show Dc Y_X11_playCounsels 51 (.iconst 2) 1 52 from ⟨by decide +kernel, rfl⟩) ?_
    refine J_istore_n [some (.ref x0), some (.int x1), some (.int x2), some (.int (2 : Int32)), none, none, none] (show Dc Y_X11_playCounsels 52 (.istore_n 3) 1 53 from ⟨by decide +kernel, rfl⟩) rfl (by decide) rfl rfl ?_
    exact J_loop (X := X) (K := (fun o => K (.inr o))) (uc := fun _ => 0) (us := fun _ => 0) (lf := fun s => [some (.ref x0), some (.int x1), some (.int s.1), some (.int s.2.1), none, none, none]) (gf := fun s => s.2.2) (fun s => j_X11_playCounsels_53 (K := zKl Y_X11_playCounsels X 53 (fun _ => 0) (fun _ => 0) (fun s => [some (.ref x0), some (.int x1), some (.int s.1), some (.int s.2.1), none, none, none]) (fun s => s.2.2) (fun o => K (.inr o))) N x0 x1 s.1 s.2.1 s.2.2 h0 (fun s h => h)) N (x2, (2 : Int32), g)
  · refine J_aload_n rfl rfl (show Dc Y_X11_playCounsels 25 (.aload_n 0) 1 26 from ⟨by decide +kernel, rfl⟩) ?_
    refine J_getR (show Dc Y_X11_playCounsels 26 (.getfield 103) 3 29 from ⟨by decide +kernel, rfl⟩) w_f_RX11_103 rfl (fun v1 => ?_)
    refine J_iload_n rfl rfl (show Dc Y_X11_playCounsels 29 (.iload_n 3) 1 30 from ⟨by decide +kernel, rfl⟩) ?_
    refine J_aload_n rfl rfl (show Dc Y_X11_playCounsels 30 (.aload_n 0) 1 31 from ⟨by decide +kernel, rfl⟩) ?_
    refine J_getR (show Dc Y_X11_playCounsels 31 (.getfield 30) 3 34 from ⟨by decide +kernel, rfl⟩) w_f_RX11_30 rfl (fun v2 => ?_)
    refine J_aload_n rfl rfl (show Dc Y_X11_playCounsels 34 (.aload_n 0) 1 35 from ⟨by decide +kernel, rfl⟩) ?_
    refine J_getR (show Dc Y_X11_playCounsels 35 (.getfield 79) 3 38 from ⟨by decide +kernel, rfl⟩) w_f_RX11_79 rfl (fun v3 => ?_)
    refine J_getR (show Dc Y_X11_playCounsels 38 (.getfield 329) 3 41 from ⟨by decide +kernel, rfl⟩) w_f_RX11_329 rfl (fun v4 => ?_)
    refine J_iload_n rfl rfl (show Dc Y_X11_playCounsels 41 (.iload_n 3) 1 42 from ⟨by decide +kernel, rfl⟩) ?_
    refine J_iald (show Dc Y_X11_playCounsels 42 (.iaload) 1 43 from ⟨by decide +kernel, rfl⟩) (fun v5 => ?_)
    refine J_iald (show Dc Y_X11_playCounsels 43 (.iaload) 1 44 from ⟨by decide +kernel, rfl⟩) (fun v6 => ?_)
    refine J_iast (show Dc Y_X11_playCounsels 44 (.iastore) 1 45 from ⟨by decide +kernel, rfl⟩) (fun g7 => ?_)
    refine J_iinc (1 : Int32) [some (.ref x0), some (.int x1), some (.int x2), some (.int (x3 + (1 : Int32))), none, none, none] (show Dc Y_X11_playCounsels 45 (.iinc 3 1) 3 48 from ⟨by decide +kernel, rfl⟩) rfl rfl (by decide) rfl rfl ?_
    refine J_goto (tg := 20) (show Dc Y_X11_playCounsels 48 (.goto (-28)) 3 51 from ⟨by decide +kernel, rfl⟩) (by decide) ?_
    exact J_leaf (fun h => hL20 (x3 + (1 : Int32), g7) h)

theorem j_X11_playCounsels_17 {X : ZX} (N : Nat) (x0 : Nat) (x1 : Int32) (s0 : Int32)  (g : ZS) {K : (Int32 × ZS) → Prop} (h0 : ∀ v g, K (v, g) → xK X (some (.int v)) g) : J Y_X11_playCounsels X 0 0 17 [some (.ref x0), some (.int x1), none, none, none, none, none] [.int s0] g (f_X11_playCounsels_17 N x0 x1 s0 g) K := by
  unfold f_X11_playCounsels_17
  refine J_istore_n [some (.ref x0), some (.int x1), some (.int s0), none, none, none, none] (show Dc Y_X11_playCounsels 17 (.istore_n 2) 1 18 from ⟨by decide +kernel, rfl⟩) rfl (by decide) rfl rfl ?_
  refine J_iconst (0 : Int32) rfl (show Dc Y_X11_playCounsels 18 (.iconst 0) 1 19 from ⟨by decide +kernel, rfl⟩) ?_
  refine J_istore_n [some (.ref x0), some (.int x1), some (.int s0), some (.int (0 : Int32)), none, none, none] (show Dc Y_X11_playCounsels 19 (.istore_n 3) 1 20 from ⟨by decide +kernel, rfl⟩) rfl (by decide) rfl rfl ?_
  exact J_loop (X := X) (K := K) (uc := fun _ => 0) (us := fun _ => 0) (lf := fun s => [some (.ref x0), some (.int x1), some (.int s0), some (.int s.1), none, none, none]) (gf := fun s => s.2) (fun s => j_X11_playCounsels_20 (K := zKl Y_X11_playCounsels X 20 (fun _ => 0) (fun _ => 0) (fun s => [some (.ref x0), some (.int x1), some (.int s0), some (.int s.1), none, none, none]) (fun s => s.2) K) N x0 x1 s0 s.1 s.2 h0 (fun s h => h)) N ((0 : Int32), g)

theorem j_X11_playCounsels {X : ZX} (N : Nat) (x0 : Nat)   (g : ZS) {K : (Int32 × ZS) → Prop} (h0 : ∀ v g, K (v, g) → xK X (some (.int v)) g) : J Y_X11_playCounsels X 0 0 0 [some (.ref x0), none, none, none, none, none, none] [] g (f_X11_playCounsels N x0 g) K := by
  unfold f_X11_playCounsels
  refine J_aload_n rfl rfl (show Dc Y_X11_playCounsels 0 (.aload_n 0) 1 1 from ⟨by decide +kernel, rfl⟩) ?_
  refine J_getR (show Dc Y_X11_playCounsels 1 (.getfield 79) 3 4 from ⟨by decide +kernel, rfl⟩) w_f_RX11_79 rfl (fun v1 => ?_)
  refine J_getI (show Dc Y_X11_playCounsels 4 (.getfield 328) 3 7 from ⟨by decide +kernel, rfl⟩) w_f_RX11_328 rfl (fun v2 => ?_)
  refine J_istore_n [some (.ref x0), some (.int v2), none, none, none, none, none] (show Dc Y_X11_playCounsels 7 (.istore_n 1) 1 8 from ⟨by decide +kernel, rfl⟩) rfl (by decide) rfl rfl ?_
  refine J_iload_n rfl rfl (show Dc Y_X11_playCounsels 8 (.iload_n 1) 1 9 from ⟨by decide +kernel, rfl⟩) ?_
  refine J_if_ne (tg := 16) (show Dc Y_X11_playCounsels 9 (.ifCond .ne 7) 3 12 from ⟨by decide +kernel, rfl⟩) (by decide) (fun h => ?_) (fun h => ?_)
  · refine J_iconst (0 : Int32) rfl (show Dc Y_X11_playCounsels 16 (.iconst 0) 1 17 from ⟨by decide +kernel, rfl⟩) ?_
    exact j_X11_playCounsels_17 N x0 v2 (0 : Int32) g h0
  · refine J_iconst (-1 : Int32) rfl (show Dc Y_X11_playCounsels 12 (.iconst (-1)) 1 13 from ⟨by decide +kernel, rfl⟩) ?_
    refine J_goto (tg := 17) (show Dc Y_X11_playCounsels 13 (.goto 4) 3 16 from ⟨by decide +kernel, rfl⟩) (by decide) ?_
    exact j_X11_playCounsels_17 N x0 v2 (-1 : Int32) g h0

theorem c_X11_playCounsels {l : Launch} {D : ZD} {B0 : Nat} (N : Nat) (x0 : Nat) (g : ZS) : ∀ r, f_X11_playCounsels N x0 g = some r → zCt l D B0 yX11_playCounsels Y_X11_playCounsels [.ref x0] g (some (.int r.1)) r.2 :=
  zCt_ofF (vo := fun r => some (.int r.1)) (so := fun r => r.2) (by decide +kernel) rfl (fun h => by cases h) rfl (Nat.le_of_ble_eq_true rfl) (fun X => j_X11_playCounsels N x0 g (fun _ _ h => h))

theorem j_X11_counsels {X : ZX} (N : Nat) (x0 : Nat) (x1 : Int32)   (g : ZS) {K : (Int32 × ZS) → Prop} (h0 : ∀ v g, K (v, g) → xK X (some (.int v)) g) : J Y_X11_counsels X 0 0 0 [some (.ref x0), some (.int x1)] [] g (f_X11_counsels N x0 x1 g) K := by
  unfold f_X11_counsels
  refine J_aload_n rfl rfl (show Dc Y_X11_counsels 0 (.aload_n 0) 1 1 from ⟨by decide +kernel, rfl⟩) ?_
  refine J_iload_n rfl rfl (show Dc Y_X11_counsels 1 (.iload_n 1) 1 2 from ⟨by decide +kernel, rfl⟩) ?_
  refine J_callVi (fun r => r) (fun _ => g) (show Dc Y_X11_counsels 2 (.invokevirtual 161) 3 5 from ⟨by decide +kernel, rfl⟩) w_m_RX11_161 w_in_X11_isParrot rfl w_se_X11_isParrot w_cw_X11_isParrot (c_X11_isParrot x0 x1 g) rfl rfl (by decide) (Nat.le_of_ble_eq_true rfl) (by decide) (by decide) (fun v1 => ?_)
  refine J_if_ne (tg := 10) (show Dc Y_X11_counsels 5 (.ifCond .ne 5) 3 8 from ⟨by decide +kernel, rfl⟩) (by decide) (fun h => ?_) (fun h => ?_)
  · refine J_aload_n rfl rfl (show Dc Y_X11_counsels 10 (.aload_n 0) 1 11 from ⟨by decide +kernel, rfl⟩) ?_
    refine J_getR (show Dc Y_X11_counsels 11 (.getfield 79) 3 14 from ⟨by decide +kernel, rfl⟩) w_f_RX11_79 rfl (fun v2 => ?_)
    refine J_aload_n rfl rfl (show Dc Y_X11_counsels 14 (.aload_n 0) 1 15 from ⟨by decide +kernel, rfl⟩) ?_
    refine J_getR (show Dc Y_X11_counsels 15 (.getfield 47) 3 18 from ⟨by decide +kernel, rfl⟩) w_f_RX11_47 rfl (fun v3 => ?_)
    refine J_getR (show Dc Y_X11_counsels 18 (.getfield 171) 3 21 from ⟨by decide +kernel, rfl⟩) w_f_RX11_171 rfl (fun v4 => ?_)
    refine J_iload_n rfl rfl (show Dc Y_X11_counsels 21 (.iload_n 1) 1 22 from ⟨by decide +kernel, rfl⟩) ?_
    refine J_aald (kd := 25) (by decide) (by decide) (show Dc Y_X11_counsels 22 (.aaload) 1 23 from ⟨by decide +kernel, rfl⟩) (fun v5 => ?_)
    refine J_aload_n rfl rfl (show Dc Y_X11_counsels 23 (.aload_n 0) 1 24 from ⟨by decide +kernel, rfl⟩) ?_
    refine J_getR (show Dc Y_X11_counsels 24 (.getfield 37) 3 27 from ⟨by decide +kernel, rfl⟩) w_f_RX11_37 rfl (fun v6 => ?_)
    refine J_aload_n rfl rfl (show Dc Y_X11_counsels 27 (.aload_n 0) 1 28 from ⟨by decide +kernel, rfl⟩) ?_
    refine J_getR (show Dc Y_X11_counsels 28 (.getfield 30) 3 31 from ⟨by decide +kernel, rfl⟩) w_f_RX11_30 rfl (fun v7 => ?_)
    refine J_callVv (fun r => r) (show Dc Y_X11_counsels 31 (.invokevirtual 289) 3 34 from ⟨by decide +kernel, rfl⟩) w_m_RX11_289 w_in_X10_follow rfl w_se_X10_follow w_cw_X10_follow (c_X10_follow N v2 v5 v6 v7 g) rfl rfl (by decide) (Nat.le_of_ble_eq_true rfl) (by decide) (by decide) (fun g8 => ?_)
    refine J_bipush (100 : Int32) rfl (show Dc Y_X11_counsels 34 (.bipush 100) 2 36 from ⟨by decide +kernel, rfl⟩) ?_
    refine J_aload_n rfl rfl (show Dc Y_X11_counsels 36 (.aload_n 0) 1 37 from ⟨by decide +kernel, rfl⟩) ?_
    refine J_callVi (fun r => r.1) (fun r => r.2) (show Dc Y_X11_counsels 37 (.invokevirtual 406) 3 40 from ⟨by decide +kernel, rfl⟩) w_m_RX11_406 w_in_X11_playCounsels rfl w_se_X11_playCounsels w_cw_X11_playCounsels (c_X11_playCounsels N x0 g8) rfl rfl (by decide) (Nat.le_of_ble_eq_true rfl) (by decide) (by decide) (fun r9 => ?_)
    refine J_iadd (show Dc Y_X11_counsels 40 (.iadd) 1 41 from ⟨by decide +kernel, rfl⟩) ?_
    exact J_reti (show Dc Y_X11_counsels 41 (.ireturn) 1 42 from ⟨by decide +kernel, rfl⟩) rfl (h0 _ _) (by decide) (by decide)
  · refine J_iconst (-1 : Int32) rfl (show Dc Y_X11_counsels 8 (.iconst (-1)) 1 9 from ⟨by decide +kernel, rfl⟩) ?_
    exact J_reti (show Dc Y_X11_counsels 9 (.ireturn) 1 10 from ⟨by decide +kernel, rfl⟩) rfl (h0 _ _) (by decide) (by decide)

theorem c_X11_counsels {l : Launch} {D : ZD} {B0 : Nat} (N : Nat) (x0 : Nat) (x1 : Int32) (g : ZS) : ∀ r, f_X11_counsels N x0 x1 g = some r → zCt l D B0 yX11_counsels Y_X11_counsels [.ref x0, .int x1] g (some (.int r.1)) r.2 :=
  zCt_ofF (vo := fun r => some (.int r.1)) (so := fun r => r.2) (by decide +kernel) rfl (fun h => by cases h) rfl (Nat.le_of_ble_eq_true rfl) (fun X => j_X11_counsels N x0 x1 g (fun _ _ h => h))

theorem j_X11_power_5 {X : ZX} (N : Nat) (x0 : Int32) (x1 : Int32) (x2 : Int64) (x4 : Int32)   (g : ZS) {K : ((Int64 × Int32) ⊕ Int64) → Prop} (h0 : ∀ v, K (.inr v) → xK X (some (.long v)) g) (hL5 : ∀ s, K (.inl s) → zG Y_X11_power X 0 0 5 [some (.int x0), some (.int x1), some (.long s.1), none, some (.int s.2)] [] g) : J Y_X11_power X 0 0 5 [some (.int x0), some (.int x1), some (.long x2), none, some (.int x4)] [] g (f_X11_power_5 N x0 x1 x2 x4) K := by
  unfold f_X11_power_5
  refine J_iload rfl (show Dc Y_X11_power 5 (.iload 4) 2 7 from ⟨by decide +kernel, rfl⟩) ?_
  refine J_iload_n rfl rfl (show Dc Y_X11_power 7 (.iload_n 1) 1 8 from ⟨by decide +kernel, rfl⟩) ?_
  refine J_icmp_ge (tg := 22) (show Dc Y_X11_power 8 (.if_icmp .ge 14) 3 11 from ⟨by decide +kernel, rfl⟩) (by decide) (fun h => ?_) (fun h => ?_)
  · refine J_map (f := Sum.inr) (fun _ h => h) ?_
    refine J_lload_n rfl rfl (show Dc Y_X11_power 22 (.lload_n 2) 1 23 from ⟨by decide +kernel, rfl⟩) ?_
    exact J_retl (show Dc Y_X11_power 23 (.lreturn) 1 24 from ⟨by decide +kernel, rfl⟩) rfl (h0 _) (by decide) (by decide)
  · refine J_lload_n rfl rfl (show Dc Y_X11_power 11 (.lload_n 2) 1 12 from ⟨by decide +kernel, rfl⟩) ?_
    refine J_iload_n rfl rfl (show Dc Y_X11_power 12 (.iload_n 0) 1 13 from ⟨by decide +kernel, rfl⟩) ?_
    refine J_i2l (show Dc Y_X11_power 13 (.i2l) 1 14 from ⟨by decide +kernel, rfl⟩) ?_
    refine J_lmul (show Dc Y_X11_power 14 (.lmul) 1 15 from ⟨by decide +kernel, rfl⟩) ?_
    refine J_lstore_n [some (.int x0), some (.int x1), some (.long (x2 * x0.toInt64)), none, some (.int x4)] (show Dc Y_X11_power 15 (.lstore_n 2) 1 16 from ⟨by decide +kernel, rfl⟩) rfl (by decide) rfl rfl ?_
    refine J_iinc (1 : Int32) [some (.int x0), some (.int x1), some (.long (x2 * x0.toInt64)), none, some (.int (x4 + (1 : Int32)))] (show Dc Y_X11_power 16 (.iinc 4 1) 3 19 from ⟨by decide +kernel, rfl⟩) rfl rfl (by decide) rfl rfl ?_
    refine J_goto (tg := 5) (show Dc Y_X11_power 19 (.goto (-14)) 3 22 from ⟨by decide +kernel, rfl⟩) (by decide) ?_
    exact J_leaf (fun h => hL5 (x2 * x0.toInt64, x4 + (1 : Int32)) h)

theorem j_X11_power {X : ZX} (N : Nat) (x0 : Int32) (x1 : Int32)   (g : ZS) {K : Int64 → Prop} (h0 : ∀ v, K v → xK X (some (.long v)) g) : J Y_X11_power X 0 0 0 [some (.int x0), some (.int x1), none, none, none] [] g (f_X11_power N x0 x1) K := by
  unfold f_X11_power
  refine J_lconst (1 : Int64) rfl (show Dc Y_X11_power 0 (.lconst 1) 1 1 from ⟨by decide +kernel, rfl⟩) ?_
  refine J_lstore_n [some (.int x0), some (.int x1), some (.long (1 : Int64)), none, none] (show Dc Y_X11_power 1 (.lstore_n 2) 1 2 from ⟨by decide +kernel, rfl⟩) rfl (by decide) rfl rfl ?_
  refine J_iconst (0 : Int32) rfl (show Dc Y_X11_power 2 (.iconst 0) 1 3 from ⟨by decide +kernel, rfl⟩) ?_
  refine J_istore [some (.int x0), some (.int x1), some (.long (1 : Int64)), none, some (.int (0 : Int32))] (show Dc Y_X11_power 3 (.istore 4) 2 5 from ⟨by decide +kernel, rfl⟩) (by decide) rfl rfl ?_
  exact J_loop (X := X) (K := K) (uc := fun _ => 0) (us := fun _ => 0) (lf := fun s => [some (.int x0), some (.int x1), some (.long s.1), none, some (.int s.2)]) (gf := fun s => g) (fun s => j_X11_power_5 (K := zKl Y_X11_power X 5 (fun _ => 0) (fun _ => 0) (fun s => [some (.int x0), some (.int x1), some (.long s.1), none, some (.int s.2)]) (fun s => g) K) N x0 x1 s.1 s.2 g h0 (fun s h => h)) N ((1 : Int64), (0 : Int32))

theorem c_X11_power {l : Launch} {D : ZD} {B0 : Nat} (N : Nat) (x0 : Int32) (x1 : Int32) (g : ZS) : ∀ r, f_X11_power N x0 x1 = some r → zCt l D B0 yX11_power Y_X11_power [.int x0, .int x1] g (some (.long r)) g :=
  zCt_ofF (vo := fun r => some (.long r)) (so := fun _ => g) (by decide +kernel) rfl (fun h => by cases h) rfl (Nat.le_of_ble_eq_true rfl) (fun X => j_X11_power N x0 x1 g (fun _ h => h))

theorem j_X11_waysOfRight_44 {X : ZX} (N : Nat) (x0 : Int32) (x1 : Int32) (x2 : Int32) (x3 : Int64) (x5 : Int64) (x7 : Int32)   (g : ZS) {K : ((Int64 × Int64 × Int32) ⊕ Int64) → Prop} (h0 : ∀ v, K (.inr v) → xK X (some (.long v)) g) (hL8 : ∀ s, K (.inl s) → zG Y_X11_waysOfRight X 0 0 8 [some (.int x0), some (.int x1), some (.int x2), some (.long s.1), none, some (.long s.2.1), none, some (.int s.2.2)] [] g) : J Y_X11_waysOfRight X 0 0 44 [some (.int x0), some (.int x1), some (.int x2), some (.long x3), none, some (.long x5), none, some (.int x7)] [] g (f_X11_waysOfRight_44 N x0 x1 x2 x3 x5 x7) K := by
  unfold f_X11_waysOfRight_44
  refine J_lload rfl (show Dc Y_X11_waysOfRight 44 (.lload 5) 2 46 from ⟨by decide +kernel, rfl⟩) ?_
  refine J_iload_n rfl rfl (show Dc Y_X11_waysOfRight 46 (.iload_n 0) 1 47 from ⟨by decide +kernel, rfl⟩) ?_
  refine J_iload rfl (show Dc Y_X11_waysOfRight 47 (.iload 7) 2 49 from ⟨by decide +kernel, rfl⟩) ?_
  refine J_isub (show Dc Y_X11_waysOfRight 49 (.isub) 1 50 from ⟨by decide +kernel, rfl⟩) ?_
  refine J_i2l (show Dc Y_X11_waysOfRight 50 (.i2l) 1 51 from ⟨by decide +kernel, rfl⟩) ?_
  refine J_lmul (show Dc Y_X11_waysOfRight 51 (.lmul) 1 52 from ⟨by decide +kernel, rfl⟩) ?_
  refine J_iload rfl (show Dc Y_X11_waysOfRight 52 (.iload 7) 2 54 from ⟨by decide +kernel, rfl⟩) ?_
  refine J_iconst (1 : Int32) rfl (show Dc Y_X11_waysOfRight 54 (.iconst 1) 1 55 from ⟨by decide +kernel, rfl⟩) ?_
  refine J_iadd (show Dc Y_X11_waysOfRight 55 (.iadd) 1 56 from ⟨by decide +kernel, rfl⟩) ?_
  refine J_i2l (show Dc Y_X11_waysOfRight 56 (.i2l) 1 57 from ⟨by decide +kernel, rfl⟩) ?_
  refine J_ldiv (show Dc Y_X11_waysOfRight 57 (.ldiv) 1 58 from ⟨by decide +kernel, rfl⟩) ?_
  refine J_lstore [some (.int x0), some (.int x1), some (.int x2), some (.long x3), none, some (.long ((x5 * ((x0 - x7).toInt64)) / ((x7 + (1 : Int32)).toInt64))), none, some (.int x7)] (show Dc Y_X11_waysOfRight 58 (.lstore 5) 2 60 from ⟨by decide +kernel, rfl⟩) (by decide) rfl rfl ?_
  refine J_iinc (1 : Int32) [some (.int x0), some (.int x1), some (.int x2), some (.long x3), none, some (.long ((x5 * ((x0 - x7).toInt64)) / ((x7 + (1 : Int32)).toInt64))), none, some (.int (x7 + (1 : Int32)))] (show Dc Y_X11_waysOfRight 60 (.iinc 7 1) 3 63 from ⟨by decide +kernel, rfl⟩) rfl rfl (by decide) rfl rfl ?_
  refine J_goto (tg := 8) (show Dc Y_X11_waysOfRight 63 (.goto (-55)) 3 66 from ⟨by decide +kernel, rfl⟩) (by decide) ?_
  exact J_leaf (fun h => hL8 (x3, (x5 * ((x0 - x7).toInt64)) / ((x7 + (1 : Int32)).toInt64), x7 + (1 : Int32)) h)

theorem j_X11_waysOfRight_8 {X : ZX} (N : Nat) (x0 : Int32) (x1 : Int32) (x2 : Int32) (x3 : Int64) (x5 : Int64) (x7 : Int32)   (g : ZS) {K : ((Int64 × Int64 × Int32) ⊕ Int64) → Prop} (h0 : ∀ v, K (.inr v) → xK X (some (.long v)) g) (hL8 : ∀ s, K (.inl s) → zG Y_X11_waysOfRight X 0 0 8 [some (.int x0), some (.int x1), some (.int x2), some (.long s.1), none, some (.long s.2.1), none, some (.int s.2.2)] [] g) : J Y_X11_waysOfRight X 0 0 8 [some (.int x0), some (.int x1), some (.int x2), some (.long x3), none, some (.long x5), none, some (.int x7)] [] g (f_X11_waysOfRight_8 N x0 x1 x2 x3 x5 x7) K := by
  unfold f_X11_waysOfRight_8
  refine J_iload rfl (show Dc Y_X11_waysOfRight 8 (.iload 7) 2 10 from ⟨by decide +kernel, rfl⟩) ?_
  refine J_iload_n rfl rfl (show Dc Y_X11_waysOfRight 10 (.iload_n 0) 1 11 from ⟨by decide +kernel, rfl⟩) ?_
  refine J_icmp_gt (tg := 66) (show Dc Y_X11_waysOfRight 11 (.if_icmp .gt 55) 3 14 from ⟨by decide +kernel, rfl⟩) (by decide) (fun h => ?_) (fun h => ?_)
  · refine J_map (f := Sum.inr) (fun _ h => h) ?_
    refine J_lload_n rfl rfl (show Dc Y_X11_waysOfRight 66 (.lload_n 3) 1 67 from ⟨by decide +kernel, rfl⟩) ?_
    exact J_retl (show Dc Y_X11_waysOfRight 67 (.lreturn) 1 68 from ⟨by decide +kernel, rfl⟩) rfl (h0 _) (by decide) (by decide)
  · refine J_iload rfl (show Dc Y_X11_waysOfRight 14 (.iload 7) 2 16 from ⟨by decide +kernel, rfl⟩) ?_
    refine J_iload_n rfl rfl (show Dc Y_X11_waysOfRight 16 (.iload_n 2) 1 17 from ⟨by decide +kernel, rfl⟩) ?_
    refine J_icmp_lt (tg := 44) (show Dc Y_X11_waysOfRight 17 (.if_icmp .lt 27) 3 20 from ⟨by decide +kernel, rfl⟩) (by decide) (fun h => ?_) (fun h => ?_)
    · exact j_X11_waysOfRight_44 N x0 x1 x2 x3 x5 x7 g h0 hL8
    · refine J_lload_n rfl rfl (show Dc Y_X11_waysOfRight 20 (.lload_n 3) 1 21 from ⟨by decide +kernel, rfl⟩) ?_
      refine J_lload rfl (show Dc Y_X11_waysOfRight 21 (.lload 5) 2 23 from ⟨by decide +kernel, rfl⟩) ?_
      refine J_iload_n rfl rfl (show Dc Y_X11_waysOfRight 23 (.iload_n 1) 1 24 from ⟨by decide +kernel, rfl⟩) ?_
      refine J_iload rfl (show Dc Y_X11_waysOfRight 24 (.iload 7) 2 26 from ⟨by decide +kernel, rfl⟩) ?_
      refine J_callSl (fun r => r) (fun _ => g) (show Dc Y_X11_waysOfRight 26 (.invokestatic 418) 3 29 from ⟨by decide +kernel, rfl⟩) w_m_RX11_418 w_st_X11_power w_cw_X11_power (c_X11_power N x1 x7 g) rfl rfl (by decide) (Nat.le_of_ble_eq_true rfl) (by decide) (by decide) (fun v1 => ?_)
      refine J_lmul (show Dc Y_X11_waysOfRight 29 (.lmul) 1 30 from ⟨by decide +kernel, rfl⟩) ?_
      refine J_bipush (10 : Int32) rfl (show Dc Y_X11_waysOfRight 30 (.bipush 10) 2 32 from ⟨by decide +kernel, rfl⟩) ?_
      refine J_iload_n rfl rfl (show Dc Y_X11_waysOfRight 32 (.iload_n 1) 1 33 from ⟨by decide +kernel, rfl⟩) ?_
      refine J_isub (show Dc Y_X11_waysOfRight 33 (.isub) 1 34 from ⟨by decide +kernel, rfl⟩) ?_
      refine J_iload_n rfl rfl (show Dc Y_X11_waysOfRight 34 (.iload_n 0) 1 35 from ⟨by decide +kernel, rfl⟩) ?_
      refine J_iload rfl (show Dc Y_X11_waysOfRight 35 (.iload 7) 2 37 from ⟨by decide +kernel, rfl⟩) ?_
      refine J_isub (show Dc Y_X11_waysOfRight 37 (.isub) 1 38 from ⟨by decide +kernel, rfl⟩) ?_
      refine J_callSl (fun r => r) (fun _ => g) (show Dc Y_X11_waysOfRight 38 (.invokestatic 418) 3 41 from ⟨by decide +kernel, rfl⟩) w_m_RX11_418 w_st_X11_power w_cw_X11_power (c_X11_power N ((10 : Int32) - x1) (x0 - x7) g) rfl rfl (by decide) (Nat.le_of_ble_eq_true rfl) (by decide) (by decide) (fun v2 => ?_)
      refine J_lmul (show Dc Y_X11_waysOfRight 41 (.lmul) 1 42 from ⟨by decide +kernel, rfl⟩) ?_
      refine J_ladd (show Dc Y_X11_waysOfRight 42 (.ladd) 1 43 from ⟨by decide +kernel, rfl⟩) ?_
      refine J_lstore_n [some (.int x0), some (.int x1), some (.int x2), some (.long (x3 + ((x5 * v1) * v2))), none, some (.long x5), none, some (.int x7)] (show Dc Y_X11_waysOfRight 43 (.lstore_n 3) 1 44 from ⟨by decide +kernel, rfl⟩) rfl (by decide) rfl rfl ?_
      exact j_X11_waysOfRight_44 N x0 x1 x2 (x3 + ((x5 * v1) * v2)) x5 x7 g h0 hL8

theorem j_X11_waysOfRight {X : ZX} (N : Nat) (x0 : Int32) (x1 : Int32) (x2 : Int32)   (g : ZS) {K : Int64 → Prop} (h0 : ∀ v, K v → xK X (some (.long v)) g) : J Y_X11_waysOfRight X 0 0 0 [some (.int x0), some (.int x1), some (.int x2), none, none, none, none, none] [] g (f_X11_waysOfRight N x0 x1 x2) K := by
  unfold f_X11_waysOfRight
  refine J_lconst (0 : Int64) rfl (show Dc Y_X11_waysOfRight 0 (.lconst 0) 1 1 from ⟨by decide +kernel, rfl⟩) ?_
  refine J_lstore_n [some (.int x0), some (.int x1), some (.int x2), some (.long (0 : Int64)), none, none, none, none] (show Dc Y_X11_waysOfRight 1 (.lstore_n 3) 1 2 from ⟨by decide +kernel, rfl⟩) rfl (by decide) rfl rfl ?_
  refine J_lconst (1 : Int64) rfl (show Dc Y_X11_waysOfRight 2 (.lconst 1) 1 3 from ⟨by decide +kernel, rfl⟩) ?_
  refine J_lstore [some (.int x0), some (.int x1), some (.int x2), some (.long (0 : Int64)), none, some (.long (1 : Int64)), none, none] (show Dc Y_X11_waysOfRight 3 (.lstore 5) 2 5 from ⟨by decide +kernel, rfl⟩) (by decide) rfl rfl ?_
  refine J_iconst (0 : Int32) rfl (show Dc Y_X11_waysOfRight 5 (.iconst 0) 1 6 from ⟨by decide +kernel, rfl⟩) ?_
  refine J_istore [some (.int x0), some (.int x1), some (.int x2), some (.long (0 : Int64)), none, some (.long (1 : Int64)), none, some (.int (0 : Int32))] (show Dc Y_X11_waysOfRight 6 (.istore 7) 2 8 from ⟨by decide +kernel, rfl⟩) (by decide) rfl rfl ?_
  exact J_loop (X := X) (K := K) (uc := fun _ => 0) (us := fun _ => 0) (lf := fun s => [some (.int x0), some (.int x1), some (.int x2), some (.long s.1), none, some (.long s.2.1), none, some (.int s.2.2)]) (gf := fun s => g) (fun s => j_X11_waysOfRight_8 (K := zKl Y_X11_waysOfRight X 8 (fun _ => 0) (fun _ => 0) (fun s => [some (.int x0), some (.int x1), some (.int x2), some (.long s.1), none, some (.long s.2.1), none, some (.int s.2.2)]) (fun s => g) K) N x0 x1 x2 s.1 s.2.1 s.2.2 g h0 (fun s h => h)) N ((0 : Int64), (1 : Int64), (0 : Int32))

theorem c_X11_waysOfRight {l : Launch} {D : ZD} {B0 : Nat} (N : Nat) (x0 : Int32) (x1 : Int32) (x2 : Int32) (g : ZS) : ∀ r, f_X11_waysOfRight N x0 x1 x2 = some r → zCt l D B0 yX11_waysOfRight Y_X11_waysOfRight [.int x0, .int x1, .int x2] g (some (.long r)) g :=
  zCt_ofF (vo := fun r => some (.long r)) (so := fun _ => g) (by decide +kernel) rfl (fun h => by cases h) rfl (Nat.le_of_ble_eq_true rfl) (fun X => j_X11_waysOfRight N x0 x1 x2 g (fun _ h => h))

theorem j_X11_tellFraction_66 {X : ZX} (N : Nat)    (g : ZS) {K : ZS → Prop} (h0 : ∀ g, K g → xK X none g) : J Y_X11_tellFraction X 0 0 66 [none, none, none, none, none, none, none, none, none, none, none, none] [] g (f_X11_tellFraction_66 N g) K := by
  unfold f_X11_tellFraction_66
  exact J_ret0 (show Dc Y_X11_tellFraction 66 (.return_) 1 67 from ⟨by decide +kernel, rfl⟩) rfl (h0 _) (by decide) (by decide)

theorem j_X11_tellFraction_44 {X : ZX} (N : Nat) (x0 : Nat) (x1 : Int64) (x3 : Int64) (x5 : Int64)   (g : ZS) {K : ZS → Prop} (h0 : ∀ g, K g → xK X none g) : J Y_X11_tellFraction X 0 0 44 [some (.ref x0), some (.long x1), none, some (.long x3), none, some (.long x5), none, none, none, none, none, none] [] g (f_X11_tellFraction_44 N x0 x1 x3 x5 g) K := by
  unfold f_X11_tellFraction_44
  refine J_lload rfl (show Dc Y_X11_tellFraction 44 (.lload 5) 2 46 from ⟨by decide +kernel, rfl⟩) ?_
  refine J_lconst (0 : Int64) rfl (show Dc Y_X11_tellFraction 46 (.lconst 0) 1 47 from ⟨by decide +kernel, rfl⟩) ?_
  refine J_lcmp (show Dc Y_X11_tellFraction 47 (.lcmp) 1 48 from ⟨by decide +kernel, rfl⟩) ?_
  refine J_if_le (tg := 66) (show Dc Y_X11_tellFraction 48 (.ifCond .le 18) 3 51 from ⟨by decide +kernel, rfl⟩) (by decide) (fun h => ?_) (fun h => ?_)
  · refine J_mask [false, false, false, false, false, false, false, false, false, false, false, false] ?_
    exact j_X11_tellFraction_66 N g h0
  · refine J_aload_n rfl rfl (show Dc Y_X11_tellFraction 51 (.aload_n 0) 1 52 from ⟨by decide +kernel, rfl⟩) ?_
    refine J_getR (show Dc Y_X11_tellFraction 52 (.getfield 19) 3 55 from ⟨by decide +kernel, rfl⟩) w_f_RX11_19 rfl (fun v1 => ?_)
    refine J_lload_n rfl rfl (show Dc Y_X11_tellFraction 55 (.lload_n 1) 1 56 from ⟨by decide +kernel, rfl⟩) ?_
    refine J_lload rfl (show Dc Y_X11_tellFraction 56 (.lload 5) 2 58 from ⟨by decide +kernel, rfl⟩) ?_
    refine J_ldiv (show Dc Y_X11_tellFraction 58 (.ldiv) 1 59 from ⟨by decide +kernel, rfl⟩) ?_
    refine J_lload_n rfl rfl (show Dc Y_X11_tellFraction 59 (.lload_n 3) 1 60 from ⟨by decide +kernel, rfl⟩) ?_
    refine J_lload rfl (show Dc Y_X11_tellFraction 60 (.lload 5) 2 62 from ⟨by decide +kernel, rfl⟩) ?_
    refine J_ldiv (show Dc Y_X11_tellFraction 62 (.ldiv) 1 63 from ⟨by decide +kernel, rfl⟩) ?_
    refine J_callVv (fun r => r) (show Dc Y_X11_tellFraction 63 (.invokevirtual 317) 3 66 from ⟨by decide +kernel, rfl⟩) w_m_RX11_317 w_in_X9_pair rfl w_se_X9_pair w_cw_X9_pair (c_X9_pair v1 (x1 / x5) (x3 / x5) g) rfl rfl (by decide) (Nat.le_of_ble_eq_true rfl) (by decide) (by decide) (fun g2 => ?_)
    refine J_mask [false, false, false, false, false, false, false, false, false, false, false, false] ?_
    exact j_X11_tellFraction_66 N g2 h0

theorem j_X11_tellFraction_9 {X : ZX} (N : Nat) (x0 : Nat) (x1 : Int64) (x3 : Int64) (x5 : Int64) (x7 : Int64) (x9 : Int32)   (g : ZS) {K : ((Int64 × Int64 × Int32) ⊕ ZS) → Prop} (h0 : ∀ g, K (.inr g) → xK X none g) (hL9 : ∀ s, K (.inl s) → zG Y_X11_tellFraction X 0 0 9 [some (.ref x0), some (.long x1), none, some (.long x3), none, some (.long s.1), none, some (.long s.2.1), none, some (.int s.2.2), none, none] [] g) : J Y_X11_tellFraction X 0 0 9 [some (.ref x0), some (.long x1), none, some (.long x3), none, some (.long x5), none, some (.long x7), none, some (.int x9), none, none] [] g (f_X11_tellFraction_9 N x0 x1 x3 x5 x7 x9 g) K := by
  unfold f_X11_tellFraction_9
  refine J_iload rfl (show Dc Y_X11_tellFraction 9 (.iload 9) 2 11 from ⟨by decide +kernel, rfl⟩) ?_
  refine J_bipush (100 : Int32) rfl (show Dc Y_X11_tellFraction 11 (.bipush 100) 2 13 from ⟨by decide +kernel, rfl⟩) ?_
  refine J_icmp_ge (tg := 44) (show Dc Y_X11_tellFraction 13 (.if_icmp .ge 31) 3 16 from ⟨by decide +kernel, rfl⟩) (by decide) (fun h => ?_) (fun h => ?_)
  · refine J_mask [true, true, false, true, false, true, false, false, false, false, false, false] ?_
    refine J_map (f := Sum.inr) (fun _ h => h) ?_
    exact j_X11_tellFraction_44 (K := fun o => K (.inr o)) N x0 x1 x3 x5 g h0
  · refine J_lload rfl (show Dc Y_X11_tellFraction 16 (.lload 7) 2 18 from ⟨by decide +kernel, rfl⟩) ?_
    refine J_lconst (0 : Int64) rfl (show Dc Y_X11_tellFraction 18 (.lconst 0) 1 19 from ⟨by decide +kernel, rfl⟩) ?_
    refine J_lcmp (show Dc Y_X11_tellFraction 19 (.lcmp) 1 20 from ⟨by decide +kernel, rfl⟩) ?_
    refine J_if_le (tg := 44) (show Dc Y_X11_tellFraction 20 (.ifCond .le 24) 3 23 from ⟨by decide +kernel, rfl⟩) (by decide) (fun h => ?_) (fun h => ?_)
    · refine J_mask [true, true, false, true, false, true, false, false, false, false, false, false] ?_
      refine J_map (f := Sum.inr) (fun _ h => h) ?_
      exact j_X11_tellFraction_44 (K := fun o => K (.inr o)) N x0 x1 x3 x5 g h0
    · refine J_lload rfl (show Dc Y_X11_tellFraction 23 (.lload 5) 2 25 from ⟨by decide +kernel, rfl⟩) ?_
      refine J_lload rfl (show Dc Y_X11_tellFraction 25 (.lload 7) 2 27 from ⟨by decide +kernel, rfl⟩) ?_
      refine J_lrem (show Dc Y_X11_tellFraction 27 (.lrem) 1 28 from ⟨by decide +kernel, rfl⟩) ?_
      refine J_lstore [some (.ref x0), some (.long x1), none, some (.long x3), none, some (.long x5), none, some (.long x7), none, some (.int x9), some (.long (x5 - x5 / x7 * x7)), none] (show Dc Y_X11_tellFraction 28 (.lstore 10) 2 30 from ⟨by decide +kernel, rfl⟩) (by decide) rfl rfl ?_
      refine J_lload rfl (show Dc Y_X11_tellFraction 30 (.lload 7) 2 32 from ⟨by decide +kernel, rfl⟩) ?_
      refine J_lstore [some (.ref x0), some (.long x1), none, some (.long x3), none, some (.long x7), none, some (.long x7), none, some (.int x9), some (.long (x5 - x5 / x7 * x7)), none] (show Dc Y_X11_tellFraction 32 (.lstore 5) 2 34 from ⟨by decide +kernel, rfl⟩) (by decide) rfl rfl ?_
      refine J_lload rfl (show Dc Y_X11_tellFraction 34 (.lload 10) 2 36 from ⟨by decide +kernel, rfl⟩) ?_
      refine J_lstore [some (.ref x0), some (.long x1), none, some (.long x3), none, some (.long x7), none, some (.long (x5 - x5 / x7 * x7)), none, some (.int x9), some (.long (x5 - x5 / x7 * x7)), none] (show Dc Y_X11_tellFraction 36 (.lstore 7) 2 38 from ⟨by decide +kernel, rfl⟩) (by decide) rfl rfl ?_
      refine J_iinc (1 : Int32) [some (.ref x0), some (.long x1), none, some (.long x3), none, some (.long x7), none, some (.long (x5 - x5 / x7 * x7)), none, some (.int (x9 + (1 : Int32))), some (.long (x5 - x5 / x7 * x7)), none] (show Dc Y_X11_tellFraction 38 (.iinc 9 1) 3 41 from ⟨by decide +kernel, rfl⟩) rfl rfl (by decide) rfl rfl ?_
      refine J_goto (tg := 9) (show Dc Y_X11_tellFraction 41 (.goto (-32)) 3 44 from ⟨by decide +kernel, rfl⟩) (by decide) ?_
      refine J_mask [true, true, false, true, false, true, false, true, false, true, false, false] ?_
      exact J_leaf (fun h => hL9 (x7, x5 - x5 / x7 * x7, x9 + (1 : Int32)) h)

theorem j_X11_tellFraction {X : ZX} (N : Nat) (x0 : Nat) (x1 : Int64) (x3 : Int64)   (g : ZS) {K : ZS → Prop} (h0 : ∀ g, K g → xK X none g) : J Y_X11_tellFraction X 0 0 0 [some (.ref x0), some (.long x1), none, some (.long x3), none, none, none, none, none, none, none, none] [] g (f_X11_tellFraction N x0 x1 x3 g) K := by
  unfold f_X11_tellFraction
  refine J_lload_n rfl rfl (show Dc Y_X11_tellFraction 0 (.lload_n 3) 1 1 from ⟨by decide +kernel, rfl⟩) ?_
  refine J_lstore [some (.ref x0), some (.long x1), none, some (.long x3), none, some (.long x3), none, none, none, none, none, none] (show Dc Y_X11_tellFraction 1 (.lstore 5) 2 3 from ⟨by decide +kernel, rfl⟩) (by decide) rfl rfl ?_
  refine J_lload_n rfl rfl (show Dc Y_X11_tellFraction 3 (.lload_n 1) 1 4 from ⟨by decide +kernel, rfl⟩) ?_
  refine J_lstore [some (.ref x0), some (.long x1), none, some (.long x3), none, some (.long x3), none, some (.long x1), none, none, none, none] (show Dc Y_X11_tellFraction 4 (.lstore 7) 2 6 from ⟨by decide +kernel, rfl⟩) (by decide) rfl rfl ?_
  refine J_iconst (0 : Int32) rfl (show Dc Y_X11_tellFraction 6 (.iconst 0) 1 7 from ⟨by decide +kernel, rfl⟩) ?_
  refine J_istore [some (.ref x0), some (.long x1), none, some (.long x3), none, some (.long x3), none, some (.long x1), none, some (.int (0 : Int32)), none, none] (show Dc Y_X11_tellFraction 7 (.istore 9) 2 9 from ⟨by decide +kernel, rfl⟩) (by decide) rfl rfl ?_
  exact J_loop (X := X) (K := K) (uc := fun _ => 0) (us := fun _ => 0) (lf := fun s => [some (.ref x0), some (.long x1), none, some (.long x3), none, some (.long s.1), none, some (.long s.2.1), none, some (.int s.2.2), none, none]) (gf := fun s => g) (fun s => j_X11_tellFraction_9 (K := zKl Y_X11_tellFraction X 9 (fun _ => 0) (fun _ => 0) (fun s => [some (.ref x0), some (.long x1), none, some (.long x3), none, some (.long s.1), none, some (.long s.2.1), none, some (.int s.2.2), none, none]) (fun s => g) K) N x0 x1 x3 s.1 s.2.1 s.2.2 g h0 (fun s h => h)) N (x3, x1, (0 : Int32))

theorem c_X11_tellFraction {l : Launch} {D : ZD} {B0 : Nat} (N : Nat) (x0 : Nat) (x1 : Int64) (x3 : Int64) (g : ZS) : ∀ r, f_X11_tellFraction N x0 x1 x3 g = some r → zCt l D B0 yX11_tellFraction Y_X11_tellFraction [.ref x0, .long x1, .long x3] g none r :=
  zCt_ofF (vo := fun _ => none) (so := fun r => r) (by decide +kernel) rfl (fun h => by cases h) rfl (Nat.le_of_ble_eq_true rfl) (fun X => j_X11_tellFraction N x0 x1 x3 g (fun _ h => h))

theorem j_X11_sure_28 {X : ZX} (N : Nat)    (g : ZS) {K : (Int32 × ZS) → Prop} (h0 : ∀ v g, K (v, g) → xK X (some (.int v)) g) : J Y_X11_sure X 0 0 28 [none, none, none, none, none, none, none] [] g (f_X11_sure_28 N g) K := by
  unfold f_X11_sure_28
  refine J_iconst (-1 : Int32) rfl (show Dc Y_X11_sure 28 (.iconst (-1)) 1 29 from ⟨by decide +kernel, rfl⟩) ?_
  exact J_reti (show Dc Y_X11_sure 29 (.ireturn) 1 30 from ⟨by decide +kernel, rfl⟩) rfl (h0 _ _) (by decide) (by decide)

theorem j_X11_sure_60 {X : ZX} (N : Nat) (x0 : Nat) (x2 : Int32) (x3 : Int32) (x4 : Int64) (x6 : Int32)   (g : ZS) {K : ((Int64 × Int32) ⊕ (Int32 × ZS)) → Prop} (h0 : ∀ v g, K (.inr (v, g)) → xK X (some (.int v)) g) (hL60 : ∀ s, K (.inl s) → zG Y_X11_sure X 0 0 60 [some (.ref x0), none, some (.int x2), some (.int x3), some (.long s.1), none, some (.int s.2)] [] g) : J Y_X11_sure X 0 0 60 [some (.ref x0), none, some (.int x2), some (.int x3), some (.long x4), none, some (.int x6)] [] g (f_X11_sure_60 N x0 x2 x3 x4 x6 g) K := by
  unfold f_X11_sure_60
  refine J_iload rfl (show Dc Y_X11_sure 60 (.iload 6) 2 62 from ⟨by decide +kernel, rfl⟩) ?_
  refine J_aload_n rfl rfl (show Dc Y_X11_sure 62 (.aload_n 0) 1 63 from ⟨by decide +kernel, rfl⟩) ?_
  refine J_getR (show Dc Y_X11_sure 63 (.getfield 79) 3 66 from ⟨by decide +kernel, rfl⟩) w_f_RX11_79 rfl (fun v1 => ?_)
  refine J_getI (show Dc Y_X11_sure 66 (.getfield 328) 3 69 from ⟨by decide +kernel, rfl⟩) w_f_RX11_328 rfl (fun v2 => ?_)
  refine J_icmp_ge (tg := 86) (show Dc Y_X11_sure 69 (.if_icmp .ge 17) 3 72 from ⟨by decide +kernel, rfl⟩) (by decide) (fun h => ?_) (fun h => ?_)
  · refine J_map (f := Sum.inr) (fun _ h => h) ?_
    refine J_aload_n rfl rfl (show Dc Y_X11_sure 86 (.aload_n 0) 1 87 from ⟨by decide +kernel, rfl⟩) ?_
    refine J_aload_n rfl rfl (show Dc Y_X11_sure 87 (.aload_n 0) 1 88 from ⟨by decide +kernel, rfl⟩) ?_
    refine J_getR (show Dc Y_X11_sure 88 (.getfield 79) 3 91 from ⟨by decide +kernel, rfl⟩) w_f_RX11_79 rfl (fun v3 => ?_)
    refine J_getI (show Dc Y_X11_sure 91 (.getfield 328) 3 94 from ⟨by decide +kernel, rfl⟩) w_f_RX11_328 rfl (fun v4 => ?_)
    refine J_iload_n rfl rfl (show Dc Y_X11_sure 94 (.iload_n 2) 1 95 from ⟨by decide +kernel, rfl⟩) ?_
    refine J_iload_n rfl rfl (show Dc Y_X11_sure 95 (.iload_n 3) 1 96 from ⟨by decide +kernel, rfl⟩) ?_
    refine J_callSl (fun r => r) (fun _ => g) (show Dc Y_X11_sure 96 (.invokestatic 411) 3 99 from ⟨by decide +kernel, rfl⟩) w_m_RX11_411 w_st_X11_waysOfRight w_cw_X11_waysOfRight (c_X11_waysOfRight N v4 x2 x3 g) rfl rfl (by decide) (Nat.le_of_ble_eq_true rfl) (by decide) (by decide) (fun v5 => ?_)
    refine J_lload rfl (show Dc Y_X11_sure 99 (.lload 4) 2 101 from ⟨by decide +kernel, rfl⟩) ?_
    refine J_callVv (fun r => r) (show Dc Y_X11_sure 101 (.invokevirtual 415) 3 104 from ⟨by decide +kernel, rfl⟩) w_m_RX11_415 w_in_X11_tellFraction rfl w_se_X11_tellFraction w_cw_X11_tellFraction (c_X11_tellFraction N x0 v5 x4 g) rfl rfl (by decide) (Nat.le_of_ble_eq_true rfl) (by decide) (by decide) (fun g6 => ?_)
    refine J_iconst (0 : Int32) rfl (show Dc Y_X11_sure 104 (.iconst 0) 1 105 from ⟨by decide +kernel, rfl⟩) ?_
    exact J_reti (show Dc Y_X11_sure 105 (.ireturn) 1 106 from ⟨by decide +kernel, rfl⟩) rfl (h0 _ _) (by decide) (by decide)
  · refine J_lload rfl (show Dc Y_X11_sure 72 (.lload 4) 2 74 from ⟨by decide +kernel, rfl⟩) ?_
    refine J_ldc2 (10 : Int64) w_kl_RX11_409 (show Dc Y_X11_sure 74 (.ldc2_w 409) 3 77 from ⟨by decide +kernel, rfl⟩) ?_
    refine J_lmul (show Dc Y_X11_sure 77 (.lmul) 1 78 from ⟨by decide +kernel, rfl⟩) ?_
    refine J_lstore [some (.ref x0), none, some (.int x2), some (.int x3), some (.long (x4 * (10 : Int64))), none, some (.int x6)] (show Dc Y_X11_sure 78 (.lstore 4) 2 80 from ⟨by decide +kernel, rfl⟩) (by decide) rfl rfl ?_
    refine J_iinc (1 : Int32) [some (.ref x0), none, some (.int x2), some (.int x3), some (.long (x4 * (10 : Int64))), none, some (.int (x6 + (1 : Int32)))] (show Dc Y_X11_sure 80 (.iinc 6 1) 3 83 from ⟨by decide +kernel, rfl⟩) rfl rfl (by decide) rfl rfl ?_
    refine J_goto (tg := 60) (show Dc Y_X11_sure 83 (.goto (-23)) 3 86 from ⟨by decide +kernel, rfl⟩) (by decide) ?_
    exact J_leaf (fun h => hL60 (x4 * (10 : Int64), x6 + (1 : Int32)) h)

theorem j_X11_sure {X : ZX} (N : Nat) (x0 : Nat) (x1 : Int32) (x2 : Int32) (x3 : Int32)   (g : ZS) {K : (Int32 × ZS) → Prop} (h0 : ∀ v g, K (v, g) → xK X (some (.int v)) g) : J Y_X11_sure X 0 0 0 [some (.ref x0), some (.int x1), some (.int x2), some (.int x3), none, none, none] [] g (f_X11_sure N x0 x1 x2 x3 g) K := by
  unfold f_X11_sure
  refine J_aload_n rfl rfl (show Dc Y_X11_sure 0 (.aload_n 0) 1 1 from ⟨by decide +kernel, rfl⟩) ?_
  refine J_iload_n rfl rfl (show Dc Y_X11_sure 1 (.iload_n 1) 1 2 from ⟨by decide +kernel, rfl⟩) ?_
  refine J_callVi (fun r => r) (fun _ => g) (show Dc Y_X11_sure 2 (.invokevirtual 161) 3 5 from ⟨by decide +kernel, rfl⟩) w_m_RX11_161 w_in_X11_isParrot rfl w_se_X11_isParrot w_cw_X11_isParrot (c_X11_isParrot x0 x1 g) rfl rfl (by decide) (Nat.le_of_ble_eq_true rfl) (by decide) (by decide) (fun v1 => ?_)
  refine J_if_eq (tg := 28) (show Dc Y_X11_sure 5 (.ifCond .eq 23) 3 8 from ⟨by decide +kernel, rfl⟩) (by decide) (fun h => ?_) (fun h => ?_)
  · refine J_mask [false, false, false, false, false, false, false] ?_
    exact j_X11_sure_28 N g h0
  · refine J_iload_n rfl rfl (show Dc Y_X11_sure 8 (.iload_n 2) 1 9 from ⟨by decide +kernel, rfl⟩) ?_
    refine J_if_lt (tg := 28) (show Dc Y_X11_sure 9 (.ifCond .lt 19) 3 12 from ⟨by decide +kernel, rfl⟩) (by decide) (fun h => ?_) (fun h => ?_)
    · refine J_mask [false, false, false, false, false, false, false] ?_
      exact j_X11_sure_28 N g h0
    · refine J_iload_n rfl rfl (show Dc Y_X11_sure 12 (.iload_n 2) 1 13 from ⟨by decide +kernel, rfl⟩) ?_
      refine J_bipush (10 : Int32) rfl (show Dc Y_X11_sure 13 (.bipush 10) 2 15 from ⟨by decide +kernel, rfl⟩) ?_
      refine J_icmp_gt (tg := 28) (show Dc Y_X11_sure 15 (.if_icmp .gt 13) 3 18 from ⟨by decide +kernel, rfl⟩) (by decide) (fun h => ?_) (fun h => ?_)
      · refine J_mask [false, false, false, false, false, false, false] ?_
        exact j_X11_sure_28 N g h0
      · refine J_iload_n rfl rfl (show Dc Y_X11_sure 18 (.iload_n 3) 1 19 from ⟨by decide +kernel, rfl⟩) ?_
        refine J_if_lt (tg := 28) (show Dc Y_X11_sure 19 (.ifCond .lt 9) 3 22 from ⟨by decide +kernel, rfl⟩) (by decide) (fun h => ?_) (fun h => ?_)
        · refine J_mask [false, false, false, false, false, false, false] ?_
          exact j_X11_sure_28 N g h0
        · refine J_iload_n rfl rfl (show Dc Y_X11_sure 22 (.iload_n 3) 1 23 from ⟨by decide +kernel, rfl⟩) ?_
          refine J_bipush (8 : Int32) rfl (show Dc Y_X11_sure 23 (.bipush 8) 2 25 from ⟨by decide +kernel, rfl⟩) ?_
          refine J_icmp_le (tg := 30) (show Dc Y_X11_sure 25 (.if_icmp .le 5) 3 28 from ⟨by decide +kernel, rfl⟩) (by decide) (fun h => ?_) (fun h => ?_)
          · refine J_aload_n rfl rfl (show Dc Y_X11_sure 30 (.aload_n 0) 1 31 from ⟨by decide +kernel, rfl⟩) ?_
            refine J_getR (show Dc Y_X11_sure 31 (.getfield 79) 3 34 from ⟨by decide +kernel, rfl⟩) w_f_RX11_79 rfl (fun v2 => ?_)
            refine J_aload_n rfl rfl (show Dc Y_X11_sure 34 (.aload_n 0) 1 35 from ⟨by decide +kernel, rfl⟩) ?_
            refine J_getR (show Dc Y_X11_sure 35 (.getfield 47) 3 38 from ⟨by decide +kernel, rfl⟩) w_f_RX11_47 rfl (fun v3 => ?_)
            refine J_getR (show Dc Y_X11_sure 38 (.getfield 171) 3 41 from ⟨by decide +kernel, rfl⟩) w_f_RX11_171 rfl (fun v4 => ?_)
            refine J_iload_n rfl rfl (show Dc Y_X11_sure 41 (.iload_n 1) 1 42 from ⟨by decide +kernel, rfl⟩) ?_
            refine J_aald (kd := 25) (by decide) (by decide) (show Dc Y_X11_sure 42 (.aaload) 1 43 from ⟨by decide +kernel, rfl⟩) (fun v5 => ?_)
            refine J_aload_n rfl rfl (show Dc Y_X11_sure 43 (.aload_n 0) 1 44 from ⟨by decide +kernel, rfl⟩) ?_
            refine J_getR (show Dc Y_X11_sure 44 (.getfield 37) 3 47 from ⟨by decide +kernel, rfl⟩) w_f_RX11_37 rfl (fun v6 => ?_)
            refine J_aload_n rfl rfl (show Dc Y_X11_sure 47 (.aload_n 0) 1 48 from ⟨by decide +kernel, rfl⟩) ?_
            refine J_getR (show Dc Y_X11_sure 48 (.getfield 30) 3 51 from ⟨by decide +kernel, rfl⟩) w_f_RX11_30 rfl (fun v7 => ?_)
            refine J_callVv (fun r => r) (show Dc Y_X11_sure 51 (.invokevirtual 289) 3 54 from ⟨by decide +kernel, rfl⟩) w_m_RX11_289 w_in_X10_follow rfl w_se_X10_follow w_cw_X10_follow (c_X10_follow N v2 v5 v6 v7 g) rfl rfl (by decide) (Nat.le_of_ble_eq_true rfl) (by decide) (by decide) (fun g8 => ?_)
            refine J_lconst (1 : Int64) rfl (show Dc Y_X11_sure 54 (.lconst 1) 1 55 from ⟨by decide +kernel, rfl⟩) ?_
            refine J_lstore [some (.ref x0), some (.int x1), some (.int x2), some (.int x3), some (.long (1 : Int64)), none, none] (show Dc Y_X11_sure 55 (.lstore 4) 2 57 from ⟨by decide +kernel, rfl⟩) (by decide) rfl rfl ?_
            refine J_iconst (0 : Int32) rfl (show Dc Y_X11_sure 57 (.iconst 0) 1 58 from ⟨by decide +kernel, rfl⟩) ?_
            refine J_istore [some (.ref x0), some (.int x1), some (.int x2), some (.int x3), some (.long (1 : Int64)), none, some (.int (0 : Int32))] (show Dc Y_X11_sure 58 (.istore 6) 2 60 from ⟨by decide +kernel, rfl⟩) (by decide) rfl rfl ?_
            refine J_mask [true, false, true, true, true, false, true] ?_
            exact J_loop (X := X) (K := K) (uc := fun _ => 0) (us := fun _ => 0) (lf := fun s => [some (.ref x0), none, some (.int x2), some (.int x3), some (.long s.1), none, some (.int s.2)]) (gf := fun s => g8) (fun s => j_X11_sure_60 (K := zKl Y_X11_sure X 60 (fun _ => 0) (fun _ => 0) (fun s => [some (.ref x0), none, some (.int x2), some (.int x3), some (.long s.1), none, some (.int s.2)]) (fun s => g8) K) N x0 x2 x3 s.1 s.2 g8 h0 (fun s h => h)) N ((1 : Int64), (0 : Int32))
          · refine J_mask [false, false, false, false, false, false, false] ?_
            exact j_X11_sure_28 N g h0

theorem c_X11_sure {l : Launch} {D : ZD} {B0 : Nat} (N : Nat) (x0 : Nat) (x1 : Int32) (x2 : Int32) (x3 : Int32) (g : ZS) : ∀ r, f_X11_sure N x0 x1 x2 x3 g = some r → zCt l D B0 yX11_sure Y_X11_sure [.ref x0, .int x1, .int x2, .int x3] g (some (.int r.1)) r.2 :=
  zCt_ofF (vo := fun r => some (.int r.1)) (so := fun r => r.2) (by decide +kernel) rfl (fun h => by cases h) rfl (Nat.le_of_ble_eq_true rfl) (fun X => j_X11_sure N x0 x1 x2 x3 g (fun _ _ h => h))
