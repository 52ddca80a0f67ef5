def f_X12_isFirst_15 (N : Nat)  (s0 : Int32) (g : ZS) : Option (Int32 × ZS) :=
  if vp_nar .boolean s0 = s0 then some (s0, g) else none

def f_X12_isFirst (N : Nat) (x0 : Nat) (x1 : Nat) (x2 : Int32) (x3 : Int32)  (g : ZS) : Option (Int32 × ZS) :=
  zvs g x0 12 <| (f_X12_placeOf N x0 x1 x2 x3 g).bind fun r1 =>
  if r1.1 = 0 then
    f_X12_isFirst_15 N (1 : Int32) r1.2
  else
    f_X12_isFirst_15 N (0 : Int32) r1.2

def f_X12_crackers_20 (N : Nat)   (g : ZS) : Option (Int32 × ZS) :=
  some ((-1 : Int32), g)

def f_X12_crackers_39 (N : Nat) (x0 : Nat) (x1 : Int32) (x2 : Int32) (x3 : Int32)  (g : ZS) : Option ((Int32 × ZS) ⊕ (Int32 × ZS)) :=
  if (40 : Int32) < x3 then
    (
      some ((-2 : Int32), g)).map Sum.inr
  else
    (zrdR g x0 12 0).bind fun v1 =>
    (zrdR g x0 12 28).bind fun v2 =>
    (f_X12_lay N v1 v2 (0 : Int32) g).bind fun g3 =>
    (zrdR g3 x0 12 28).bind fun v4 =>
    (f_X12_goTeach v4 x1 x2 x3 g3).bind fun g5 =>
    (zrdR g5 x0 12 28).bind fun v6 =>
    zvs g5 x0 12 <| (f_X12_isFirst N x0 v6 x1 x2 g5).bind fun r7 =>
    if r7.1 = 0 then
      some (.inl (x3 + (1 : Int32), r7.2))
    else
      (
        some (x3, r7.2)).map Sum.inr

def f_X12_crackers (N : Nat) (x0 : Nat) (x1 : Int32) (x2 : Int32)  (g : ZS) : Option (Int32 × ZS) :=
  (zwrI g x0 12 10 (0 : Int32)).bind fun g1 =>
  zvs g1 x0 12 <| (f_X12_isParrot x0 x1 g1).bind fun v2 =>
  if v2 = 0 then
    f_X12_crackers_20 N g1
  else
    (f_X12_isWord x2).bind fun v3 =>
    if v3 = 0 then
      f_X12_crackers_20 N g1
    else
      (zrdR g1 x0 12 0).bind fun v4 =>
      (f_X12_hasHeard v4 x1 x2 g1).bind fun v5 =>
      if v5 = 0 then
        some ((-2 : Int32), g1)
      else
        zloop (fun s => f_X12_crackers_39 N x0 x1 x2 s.1 s.2) N ((0 : Int32), g1)

def f_X12_stay_27 (N : Nat)   (g : ZS) : Option (Int32 × ZS) :=
  some ((-1 : Int32), g)

def f_X12_stay_66 (N : Nat) (x0 : Nat) (x1 : Int32) (x3 : Int32) (x4 : Int32)  (g : ZS) : Option ((Int32 × ZS) ⊕ (Int32 × ZS)) :=
  if (60 : Int32) < x4 then
    (
      some ((-2 : Int32), g)).map Sum.inr
  else
    (zrdR g x0 12 28).bind fun v1 =>
    zvs g x0 12 <| (f_X12_isFirst N x0 v1 x1 x3 g).bind fun r2 =>
    if r2.1 = 0 then
      (zrdR r2.2 x0 12 28).bind fun v3 =>
      zvs r2.2 x0 12 <| (f_X12_goDays N x0 v3 (1 : Int32) r2.2).bind fun g4 =>
      some (.inl (x4 + (1 : Int32), g4))
    else
      (
        some (x4, r2.2)).map Sum.inr

def f_X12_stay (N : Nat) (x0 : Nat) (x1 : Int32) (x2 : Int32) (x3 : Int32)  (g : ZS) : Option (Int32 × ZS) :=
  (zwrI g x0 12 10 (0 : Int32)).bind fun g1 =>
  zvs g1 x0 12 <| (f_X12_isParrot x0 x1 g1).bind fun v2 =>
  if v2 = 0 then
    f_X12_stay_27 N g1
  else
    (f_X12_isHouse x2).bind fun v3 =>
    if v3 = 0 then
      f_X12_stay_27 N g1
    else
      (f_X12_isWord x3).bind fun v4 =>
      if v4 = 0 then
        f_X12_stay_27 N g1
      else
        (zrdR g1 x0 12 0).bind fun v5 =>
        (zrdR g1 x0 12 28).bind fun v6 =>
        (f_X12_lay N v5 v6 (0 : Int32) g1).bind fun g7 =>
        (zrdR g7 x0 12 28).bind fun v8 =>
        (f_X12_of x1 (0 : Int32)).bind fun v9 =>
        (zast 20 g7 v8 v9 x2).bind fun g10 =>
        (zrdR g10 x0 12 28).bind fun v11 =>
        (f_X12_of x1 (1 : Int32)).bind fun v12 =>
        (zast 20 g10 v11 v12 (0 : Int32)).bind fun g13 =>
        zloop (fun s => f_X12_stay_66 N x0 x1 x3 s.1 s.2) N ((0 : Int32), g13)

def f_X12_hear_26 (N : Nat)   (g : ZS) : Option (Int32 × ZS) :=
  some ((-1 : Int32), g)

def f_X12_hear_110 (N : Nat) (x0 : Nat) (x1 : Int32) (x3 : Int32) (x4 : Int32) (x6 : Int32) (s0 : Int32) (s1 : Int32) (g : ZS) : Option ((Int32 × Int32) ⊕ ((Int32 × Int32) ⊕ (Int32 × ZS))) :=
  some (.inl (s0 ||| s1, x6 + (1 : Int32)))

def f_X12_hear_148 (N : Nat) (x0 : Nat) (x1 : Int32) (x3 : Int32) (x4 : Int32)  (g : ZS) : Option ((Int32 × Int32) ⊕ (Int32 × ZS)) :=
  some (.inl (x3, x4 + (1 : Int32)))

def f_X12_hear_145 (N : Nat) (x0 : Nat) (x1 : Int32) (x4 : Int32)  (g : ZS) : Option ((Int32 × Int32) ⊕ (Int32 × ZS)) :=
  f_X12_hear_148 N x0 x1 x4 x4 g

def f_X12_hear_78 (N : Nat) (x0 : Nat) (x1 : Int32) (x3 : Int32) (x4 : Int32) (x5 : Int32) (x6 : Int32)  (g : ZS) : Option ((Int32 × Int32) ⊕ ((Int32 × Int32) ⊕ (Int32 × ZS))) :=
  (zrdI g x0 12 1).bind fun v1 =>
  if v1 ≤ x6 then
    (
      if (x1 &&& (x5 ^^^ (-1 : Int32))) = 0 then
        if x3 = (-1 : Int32) then
          f_X12_hear_145 N x0 x1 x4 g
        else
          (f_J6_bitCount_0f7a4 x4).bind fun v2 =>
          (f_J6_bitCount_0f7a4 x3).bind fun v3 =>
          if v3 ≤ v2 then
            f_X12_hear_148 N x0 x1 x3 x4 g
          else
            f_X12_hear_145 N x0 x1 x4 g
      else
        f_X12_hear_148 N x0 x1 x3 x4 g).map Sum.inr
  else
    (f_X12_has x4 x6).bind fun v4 =>
    if v4 = 0 then
      f_X12_hear_110 N x0 x1 x3 x4 x6 x5 (0 : Int32) g
    else
      (zrdR g x0 12 30).bind fun v5 =>
      (zald 20 g v5 x6).bind fun v6 =>
      f_X12_hear_110 N x0 x1 x3 x4 x6 x5 v6 g

def f_X12_hear_61 (N : Nat) (x0 : Nat) (x1 : Int32) (x3 : Int32) (x4 : Int32)  (g : ZS) : Option ((Int32 × Int32) ⊕ (Int32 × ZS)) :=
  (zrdI g x0 12 1).bind fun v1 =>
  if ((1 : Int32) <<< (v1 &&& 31)) ≤ x4 then
    (
      if x3 = (-1 : Int32) then
        some ((-2 : Int32), g)
      else
        (zwrI g x0 12 9 (0 : Int32)).bind fun g2 =>
        zvs g2 x0 12 <| (f_X12_tell x0 x3.toInt64 g2).bind fun g3 =>
        (f_J6_bitCount_0f7a4 x3).bind fun v4 =>
        some (v4, g3)).map Sum.inr
  else
    zloop (fun s => f_X12_hear_78 N x0 x1 x3 x4 s.1 s.2 g) N ((0 : Int32), (0 : Int32))

def f_X12_hear_30 (N : Nat) (x0 : Nat) (x1 : Int32) (x2 : Int32) (x3 : Int32)  (g : ZS) : Option ((Int32 × ZS) ⊕ (Int32 × ZS)) :=
  (zrdI g x0 12 1).bind fun v1 =>
  if v1 ≤ x3 then
    (
      zloop (fun s => f_X12_hear_61 N x0 x1 s.1 s.2 g) N ((-1 : Int32), (0 : Int32))).map Sum.inr
  else
    (zrdR g x0 12 30).bind fun v2 =>
    zvs g x0 12 <| (f_X12_saidBits N x0 x3 x2 g).bind fun r3 =>
    (zast 20 r3.2 v2 x3 r3.1).bind fun g4 =>
    some (.inl (x3 + (1 : Int32), g4))

def f_X12_hear (N : Nat) (x0 : Nat) (x1 : Int32) (x2 : Int32)  (g : ZS) : Option (Int32 × ZS) :=
  (zwrI g x0 12 10 (0 : Int32)).bind fun g1 =>
  (f_X12_in x1 (0 : Int32) (255 : Int32)).bind fun v2 =>
  if v2 = 0 then
    f_X12_hear_26 N g1
  else
    (f_X12_in x2 (1 : Int32) (8 : Int32)).bind fun v3 =>
    if v3 = 0 then
      f_X12_hear_26 N g1
    else
      zloop (fun s => f_X12_hear_30 N x0 x1 x2 s.1 s.2) N ((0 : Int32), g1)

def f_X12_worthOf_42 (N : Nat) (x0 : Nat) (x3 : Int32) (x5 : Int32) (s0 : Int32) (s1 : Int32) (g : ZS) : Option ((Int32 × Int32) ⊕ (Int32 × ZS)) :=
  some (.inl (s0 + s1, x5 + (1 : Int32)))

def f_X12_worthOf_13 (N : Nat) (x0 : Nat) (x3 : Int32) (x4 : Int32) (x5 : Int32)  (g : ZS) : Option ((Int32 × Int32) ⊕ (Int32 × ZS)) :=
  if (8 : Int32) ≤ x5 then
    (
      some (x4, g)).map Sum.inr
  else
    (f_X12_has x3 x5).bind fun v1 =>
    if v1 = 0 then
      f_X12_worthOf_42 N x0 x3 x5 x4 (0 : Int32) g
    else
      (zrdR g x0 12 3).bind fun v2 =>
      (zald 20 g v2 x5).bind fun v3 =>
      f_X12_worthOf_42 N x0 x3 x5 x4 v3 g

def f_X12_worthOf (N : Nat) (x0 : Nat) (x1 : Int32) (x2 : Int32)  (g : ZS) : Option (Int32 × ZS) :=
  zvs g x0 12 <| (f_X12_saidBits N x0 x1 x2 g).bind fun r1 =>
  zloop (fun s => f_X12_worthOf_13 N x0 r1.1 s.1 s.2 r1.2) N ((0 : Int32), (0 : Int32))

def f_X12_gain_23 (N : Nat)   (g : ZS) : Option (Int32 × ZS) :=
  some ((-1 : Int32), g)

def f_X12_gain_58 (N : Nat) (x0 : Nat) (x1 : Int32) (x2 : Int32) (x3 : Int32) (x4 : Int32)  (g : ZS) : Option ((Int32 × Int32 × ZS) ⊕ (Int32 × ZS)) :=
  some (.inl (x3, x4 + (1 : Int32), g))

def f_X12_gain_30 (N : Nat) (x0 : Nat) (x1 : Int32) (x2 : Int32) (x3 : Int32) (x4 : Int32)  (g : ZS) : Option ((Int32 × Int32 × ZS) ⊕ (Int32 × ZS)) :=
  (zrdI g x0 12 1).bind fun v1 =>
  if v1 ≤ x4 then
    (
      (zwrI g x0 12 9 (0 : Int32)).bind fun g2 =>
      zvs g2 x0 12 <| (f_X12_tell x0 x3.toInt64 g2).bind fun g3 =>
      zvs g3 x0 12 <| (f_X12_worthOf N x0 x3 x2 g3).bind fun r4 =>
      zvs r4.2 x0 12 <| (f_X12_tell x0 r4.1.toInt64 r4.2).bind fun g5 =>
      zvs g5 x0 12 <| (f_X12_worthOf N x0 x1 x2 g5).bind fun r6 =>
      some (r6.1, r6.2)).map Sum.inr
  else
    zvs g x0 12 <| (f_X12_worthOf N x0 x4 x2 g).bind fun r7 =>
    zvs r7.2 x0 12 <| (f_X12_worthOf N x0 x3 x2 r7.2).bind fun r8 =>
    if r7.1 ≤ r8.1 then
      f_X12_gain_58 N x0 x1 x2 x3 x4 r8.2
    else
      f_X12_gain_58 N x0 x1 x2 x4 x4 r8.2

def f_X12_gain (N : Nat) (x0 : Nat) (x1 : Int32) (x2 : Int32)  (g : ZS) : Option (Int32 × ZS) :=
  (zwrI g x0 12 10 (0 : Int32)).bind fun g1 =>
  zvs g1 x0 12 <| (f_X12_isParrot x0 x1 g1).bind fun v2 =>
  if v2 = 0 then
    f_X12_gain_23 N g1
  else
    (f_X12_in x2 (0 : Int32) (8 : Int32)).bind fun v3 =>
    if v3 = 0 then
      f_X12_gain_23 N g1
    else
      zloop (fun s => f_X12_gain_30 N x0 x1 x2 s.1 s.2.1 s.2.2) N ((0 : Int32), (1 : Int32), g1)

def f_X12_alike_148 (N : Nat) (x0 : Nat) (x3 : Int32) (x4 : Int32) (x5 : Int32) (x6 : Int32) (x7 : Int32) (x8 : Int32) (x9 : Int32) (x10 : Int32)  (g : ZS) : Option ((Int32 × Int32 × Int32 × Int32 × ZS) ⊕ ((Int32 × Int32 × ZS) ⊕ (Int32 × ZS))) :=
  some (.inl (x7, x8, x9, x10 + (1 : Int32), g))

def f_X12_alike_125 (N : Nat) (x0 : Nat) (x3 : Int32) (x4 : Int32) (x5 : Int32) (x6 : Int32) (x7 : Int32) (x10 : Int32) (x11 : Int32) (s0 : Int32) (g : ZS) : Option ((Int32 × Int32 × Int32 × Int32 × ZS) ⊕ ((Int32 × Int32 × ZS) ⊕ (Int32 × ZS))) :=
  (zrdR g x0 12 32).bind fun v1 =>
  (zrdR g x0 12 22).bind fun v2 =>
  (zald 20 g v2 x10).bind fun v3 =>
  (zast 20 g v1 x7 v3).bind fun g4 =>
  f_X12_alike_148 N x0 x3 x4 x5 x6 (x7 + (1 : Int32)) x11 s0 x10 g4

def f_X12_alike_219 (N : Nat) (x0 : Nat) (x3 : Int32) (x4 : Int32) (x5 : Int32) (x6 : Int32)  (g : ZS) : Option ((Int32 × Int32 × ZS) ⊕ (Int32 × ZS)) :=
  some (.inl (x5, x6 + (1 : Int32), g))

def f_X12_alike_192 (N : Nat) (x0 : Nat) (x3 : Int32) (x4 : Int32) (x5 : Int32) (x6 : Int32) (x7 : Int32) (x10 : Int32)  (g : ZS) : Option ((Int32 × ZS) ⊕ ((Int32 × Int32 × ZS) ⊕ (Int32 × ZS))) :=
  if x7 ≤ x10 then
    (
    f_X12_alike_219 N x0 x3 x4 x5 x6 g).map Sum.inr
  else
    (zrdR g x0 12 33).bind fun v1 =>
    (zrdR g x0 12 32).bind fun v2 =>
    (zald 20 g v2 x10).bind fun v3 =>
    (zast 20 g v1 x10 v3).bind fun g4 =>
    some (.inl (x10 + (1 : Int32), g4))

def f_X12_alike_185 (N : Nat) (x0 : Nat) (x3 : Int32) (x4 : Int32) (x6 : Int32) (x7 : Int32)  (g : ZS) : Option ((Int32 × Int32 × ZS) ⊕ (Int32 × ZS)) :=
  zloop (fun s => f_X12_alike_192 N x0 x3 x4 x7 x6 x7 s.1 s.2) N ((0 : Int32), g)

def f_X12_alike_154 (N : Nat) (x0 : Nat) (x3 : Int32) (x4 : Int32) (x5 : Int32) (x6 : Int32) (x7 : Int32) (x9 : Int32)  (g : ZS) : Option ((Int32 × Int32 × ZS) ⊕ (Int32 × ZS)) :=
  if x9 = 0 then
    f_X12_alike_219 N x0 x3 x4 x5 x6 g
  else
    if x7 < x5 then
      f_X12_alike_219 N x0 x3 x4 x5 x6 g
    else
      if x7 = x5 then
        zvs g x0 12 <| (f_X12_isLess N x0 x7 g).bind fun v1 =>
        if v1 = 0 then
          f_X12_alike_219 N x0 x3 x4 x5 x6 g
        else
          f_X12_alike_185 N x0 x3 x4 x6 x7 g
      else
        f_X12_alike_185 N x0 x3 x4 x6 x7 g

def f_X12_alike_71 (N : Nat) (x0 : Nat) (x3 : Int32) (x4 : Int32) (x5 : Int32) (x6 : Int32) (x7 : Int32) (x8 : Int32) (x9 : Int32) (x10 : Int32)  (g : ZS) : Option ((Int32 × Int32 × Int32 × Int32 × ZS) ⊕ ((Int32 × Int32 × ZS) ⊕ (Int32 × ZS))) :=
  if x3 ≤ x10 then
    (
    f_X12_alike_154 N x0 x3 x4 x5 x6 x7 x9 g).map Sum.inr
  else
    if x9 = 0 then
      (
      f_X12_alike_154 N x0 x3 x4 x5 x6 x7 x9 g).map Sum.inr
    else
      (f_X12_has x6 x10).bind fun v1 =>
      if v1 = 0 then
        f_X12_alike_148 N x0 x3 x4 x5 x6 x7 x8 x9 x10 g
      else
        (zrdR g x0 12 23).bind fun v2 =>
        (zrdR g x0 12 22).bind fun v3 =>
        (zald 20 g v3 x10).bind fun v4 =>
        (f_X12_spotOf N v2 x4 v4 g).bind fun v5 =>
        if v5 ≤ x8 then
          f_X12_alike_125 N x0 x3 x4 x5 x6 x7 x10 v5 (0 : Int32) g
        else
          f_X12_alike_125 N x0 x3 x4 x5 x6 x7 x10 v5 (1 : Int32) g

def f_X12_alike_51 (N : Nat) (x0 : Nat) (x3 : Int32) (x4 : Int32) (x5 : Int32) (x6 : Int32)  (g : ZS) : Option ((Int32 × Int32 × ZS) ⊕ (Int32 × ZS)) :=
  if ((1 : Int32) <<< (x3 &&& 31)) ≤ x6 then
    (
      (zrdR g x0 12 33).bind fun v1 =>
      zvs g x0 12 <| (f_X12_tellList N x0 v1 x5 g).bind fun g2 =>
      some (x5, g2)).map Sum.inr
  else
    zloop (fun s => f_X12_alike_71 N x0 x3 x4 x5 x6 s.1 s.2.1 s.2.2.1 s.2.2.2.1 s.2.2.2.2) N ((0 : Int32), (-1 : Int32), (1 : Int32), (0 : Int32), g)

def f_X12_alike (N : Nat) (x0 : Nat) (x1 : Int32) (x2 : Int32)  (g : ZS) : Option (Int32 × ZS) :=
  (zwrI g x0 12 10 (0 : Int32)).bind fun g1 =>
  zvs g1 x0 12 <| (f_X12_areTwo x0 x1 x2 g1).bind fun v2 =>
  if v2 = 0 then
    some ((-1 : Int32), g1)
  else
    (zrdR g1 x0 12 0).bind fun v3 =>
    (zrdR g1 x0 12 22).bind fun v4 =>
    zvs g1 x0 12 <| (f_X12_laySays N x0 v3 x1 v4 g1).bind fun r5 =>
    (zrdR r5.2 x0 12 0).bind fun v6 =>
    (zrdR r5.2 x0 12 23).bind fun v7 =>
    zvs r5.2 x0 12 <| (f_X12_laySays N x0 v6 x2 v7 r5.2).bind fun r8 =>
    zloop (fun s => f_X12_alike_51 N x0 r5.1 r8.1 s.1 s.2.1 s.2.2) N ((0 : Int32), (1 : Int32), r8.2)

def f_X12_unlike_140 (N : Nat) (x0 : Nat) (x3 : Int32) (x4 : Int32) (x5 : Int32) (x7 : Int32) (x8 : Int32) (x9 : Int32) (s0 : Int32) (s1 : Int32) (g : ZS) : Option ((Int32 × Int32) ⊕ ((Int32 × Int32 × Int32) ⊕ (Int32 × ZS))) :=
  some (.inl (s0 + s1, x9 + (1 : Int32)))

def f_X12_unlike_139 (N : Nat) (x0 : Nat) (x3 : Int32) (x4 : Int32) (x5 : Int32) (x7 : Int32) (x8 : Int32) (x9 : Int32) (s0 : Int32) (g : ZS) : Option ((Int32 × Int32) ⊕ ((Int32 × Int32 × Int32) ⊕ (Int32 × ZS))) :=
  f_X12_unlike_140 N x0 x3 x4 x5 x7 x8 x9 s0 (0 : Int32) g

def f_X12_unlike_149 (N : Nat) (x0 : Nat) (x3 : Int32) (x4 : Int32) (x5 : Int32) (x6 : Int32) (x7 : Int32)  (g : ZS) : Option ((Int32 × Int32 × Int32) ⊕ (Int32 × ZS)) :=
  some (.inl (x5, x6, x7 + (1 : Int32)))

def f_X12_unlike_96 (N : Nat) (x0 : Nat) (x3 : Int32) (x4 : Int32) (x5 : Int32) (x6 : Int32) (x7 : Int32) (x8 : Int32) (x9 : Int32)  (g : ZS) : Option ((Int32 × Int32) ⊕ ((Int32 × Int32 × Int32) ⊕ (Int32 × ZS))) :=
  if x3 ≤ x9 then
    (
    f_X12_unlike_149 N x0 x3 x4 x5 x6 x7 g).map Sum.inr
  else
    (zrdR g x0 12 23).bind fun v1 =>
    (zrdR g x0 12 22).bind fun v2 =>
    (zald 20 g v2 x9).bind fun v3 =>
    (f_X12_spotOf N v1 x4 v3 g).bind fun v4 =>
    if v4 = (-1 : Int32) then
      f_X12_unlike_139 N x0 x3 x4 x5 x7 x8 x9 x6 g
    else
      if x8 ≤ v4 then
        f_X12_unlike_139 N x0 x3 x4 x5 x7 x8 x9 x6 g
      else
        f_X12_unlike_140 N x0 x3 x4 x5 x7 x8 x9 x6 (1 : Int32) g

def f_X12_unlike_54 (N : Nat) (x0 : Nat) (x3 : Int32) (x4 : Int32) (x5 : Int32) (x6 : Int32) (x7 : Int32)  (g : ZS) : Option ((Int32 × Int32 × Int32) ⊕ (Int32 × ZS)) :=
  if x3 ≤ x7 then
    (
      (zwrI g x0 12 9 (0 : Int32)).bind fun g1 =>
      zvs g1 x0 12 <| (f_X12_tell x0 x5.toInt64 g1).bind fun g2 =>
      some (x6, g2)).map Sum.inr
  else
    (zrdR g x0 12 23).bind fun v3 =>
    (zrdR g x0 12 22).bind fun v4 =>
    (zald 20 g v4 x7).bind fun v5 =>
    (f_X12_spotOf N v3 x4 v5 g).bind fun v6 =>
    if v6 = (-1 : Int32) then
      f_X12_unlike_149 N x0 x3 x4 x5 x6 x7 g
    else
      zloop (fun s => f_X12_unlike_96 N x0 x3 x4 (x5 + (1 : Int32)) s.1 x7 v6 s.2 g) N (x6, x7 + (1 : Int32))

def f_X12_unlike (N : Nat) (x0 : Nat) (x1 : Int32) (x2 : Int32)  (g : ZS) : Option (Int32 × ZS) :=
  (zwrI g x0 12 10 (0 : Int32)).bind fun g1 =>
  zvs g1 x0 12 <| (f_X12_areTwo x0 x1 x2 g1).bind fun v2 =>
  if v2 = 0 then
    some ((-1 : Int32), g1)
  else
    (zrdR g1 x0 12 0).bind fun v3 =>
    (zrdR g1 x0 12 22).bind fun v4 =>
    zvs g1 x0 12 <| (f_X12_laySays N x0 v3 x1 v4 g1).bind fun r5 =>
    (zrdR r5.2 x0 12 0).bind fun v6 =>
    (zrdR r5.2 x0 12 23).bind fun v7 =>
    zvs r5.2 x0 12 <| (f_X12_laySays N x0 v6 x2 v7 r5.2).bind fun r8 =>
    zloop (fun s => f_X12_unlike_54 N x0 r5.1 r8.1 s.1 s.2.1 s.2.2 r8.2) N ((0 : Int32), (0 : Int32), (0 : Int32))

def f_X12_clash_20 (N : Nat) (x0 : Nat) (x1 : Int32) (x2 : Int32)  (g : ZS) : Option ((Int32 × ZS) ⊕ ((Int32 × ZS) ⊕ (Int32 × ZS))) :=
  if (8 : Int32) ≤ x2 then
    (
      some (.inl (x1 + (1 : Int32), g))).map Sum.inr
  else
    (zrdR g x0 12 32).bind fun v1 =>
    (zast 20 g v1 (0 : Int32) x2).bind fun g2 =>
    zvs g2 x0 12 <| (t_X12_goRing N x0 (1 : Int32) x1 ((1 : Int32) <<< (x2 &&& 31)) g2).bind fun r3 =>
    if r3.1 = 0 then
      some (.inl (x2 + (1 : Int32), r3.2))
    else
      (
      (
        (zrdR r3.2 x0 12 32).bind fun v4 =>
        zvs r3.2 x0 12 <| (f_X12_tellList N x0 v4 x1 r3.2).bind fun g5 =>
        some (x1, g5)).map Sum.inr).map Sum.inr

def f_X12_clash_12 (N : Nat) (x0 : Nat) (x1 : Int32)  (g : ZS) : Option ((Int32 × ZS) ⊕ (Int32 × ZS)) :=
  if (8 : Int32) < x1 then
    (
      some ((-2 : Int32), g)).map Sum.inr
  else
    zloop (fun s => f_X12_clash_20 N x0 x1 s.1 s.2) N ((0 : Int32), g)

def f_X12_clash (N : Nat) (x0 : Nat)  (g : ZS) : Option (Int32 × ZS) :=
  (zwrI g x0 12 10 (0 : Int32)).bind fun g1 =>
  zvs g1 x0 12 <| (f_X12_layBehind N x0 (0 : Int32) g1).bind fun g2 =>
  zloop (fun s => f_X12_clash_12 N x0 s.1 s.2) N ((2 : Int32), g2)

def f_X12_counsels_182 (N : Nat) (x0 : Nat) (x2 : Int32) (x4 : Int32) (x5 : Int32) (s0 : Int32) (g : ZS) : Option ((Int32 × Int32 × ZS) ⊕ ((Int32 × Int32 × ZS) ⊕ (Int32 × ZS))) :=
  some (.inl (s0, x5 + (1 : Int32), g))

def f_X12_counsels_72 (N : Nat) (x0 : Nat) (x2 : Int32) (x3 : Int32) (x4 : Int32) (x5 : Int32)  (g : ZS) : Option ((Int32 × Int32 × ZS) ⊕ ((Int32 × Int32 × ZS) ⊕ (Int32 × ZS))) :=
  if x2 < (x5 + x4) then
    (
      some (.inl (x3, x4 + (1 : Int32), g))).map Sum.inr
  else
    (zrdR g x0 12 3).bind fun v1 =>
    (zrdR g x0 12 22).bind fun v2 =>
    (zald 20 g v2 x5).bind fun v3 =>
    (zald 20 g v1 v3).bind fun v4 =>
    (zrdR g x0 12 38).bind fun v5 =>
    (zald 20 g v5 (((9 : Int32) * (x5 + (1 : Int32))) + (x5 + x4))).bind fun v6 =>
    (zrdR g x0 12 3).bind fun v7 =>
    (zrdR g x0 12 22).bind fun v8 =>
    (zald 20 g v8 ((x5 + x4) - (1 : Int32))).bind fun v9 =>
    (zald 20 g v7 v9).bind fun v10 =>
    (zrdR g x0 12 38).bind fun v11 =>
    (zald 20 g v11 ((((9 : Int32) * x5) + (x5 + x4)) - (1 : Int32))).bind fun v12 =>
    (zrdR g x0 12 38).bind fun v13 =>
    (f_J9_max_7cf53 (v4 - v6) (v10 - v12)).bind fun v14 =>
    (zast 20 g v13 (((9 : Int32) * x5) + (x5 + x4)) v14).bind fun g15 =>
    if (v10 - v12) ≤ (v4 - v6) then
      f_X12_counsels_182 N x0 x2 x4 x5 (0 : Int32) g15
    else
      f_X12_counsels_182 N x0 x2 x4 x5 (1 : Int32) g15

def f_X12_counsels_63 (N : Nat) (x0 : Nat) (x2 : Int32) (x3 : Int32) (x4 : Int32)  (g : ZS) : Option ((Int32 × Int32 × ZS) ⊕ (Int32 × ZS)) :=
  if x2 < x4 then
    (
      (zwrI g x0 12 9 (0 : Int32)).bind fun g1 =>
      zvs g1 x0 12 <| (f_X12_tell x0 x3.toInt64 g1).bind fun g2 =>
      (zrdR g2 x0 12 38).bind fun v3 =>
      (zald 20 g2 v3 x2).bind fun v4 =>
      some ((100 : Int32) + v4, g2)).map Sum.inr
  else
    zloop (fun s => f_X12_counsels_72 N x0 x2 s.1 x4 s.2.1 s.2.2) N (x3, (0 : Int32), g)

def f_X12_counsels_34 (N : Nat) (x0 : Nat) (x2 : Int32) (x3 : Int32) (x4 : Int32)  (g : ZS) : Option ((Int32 × ZS) ⊕ (Int32 × ZS)) :=
  if x2 < x4 then
    (
      zloop (fun s => f_X12_counsels_63 N x0 x2 s.1 s.2.1 s.2.2) N (x3, (1 : Int32), g)).map Sum.inr
  else
    (zrdR g x0 12 38).bind fun v1 =>
    (zast 20 g v1 (((9 : Int32) * x4) + x4) (0 : Int32)).bind fun g2 =>
    some (.inl (x4 + (1 : Int32), g2))

def f_X12_counsels (N : Nat) (x0 : Nat) (x1 : Int32)  (g : ZS) : Option (Int32 × ZS) :=
  (zwrI g x0 12 10 (0 : Int32)).bind fun g1 =>
  zvs g1 x0 12 <| (f_X12_isParrot x0 x1 g1).bind fun v2 =>
  if v2 = 0 then
    some ((-1 : Int32), g1)
  else
    (zrdR g1 x0 12 0).bind fun v3 =>
    (zrdR g1 x0 12 22).bind fun v4 =>
    zvs g1 x0 12 <| (f_X12_laySays N x0 v3 x1 v4 g1).bind fun r5 =>
    zloop (fun s => f_X12_counsels_34 N x0 r5.1 (-1 : Int32) s.1 s.2) N ((0 : Int32), r5.2)

def f_X12_sure_33 (N : Nat)   (g : ZS) : Option (Int32 × ZS) :=
  some ((-1 : Int32), g)

def f_X12_sure_102 (N : Nat) (x0 : Nat) (x2 : Int32) (x3 : Int32) (x4 : Int32) (x7 : Int64) (x9 : Int32) (s0 : Int64) (s1 : Int64) (g : ZS) : Option ((Int64 × Int64 × Int32) ⊕ (Int32 × ZS)) :=
  if (x9 + (1 : Int32)).toInt64 = 0 then none else
  some (.inl (s0 + s1, (x7 * ((x4 - x9).toInt64)) / ((x9 + (1 : Int32)).toInt64), x9 + (1 : Int32)))

def f_X12_sure_59 (N : Nat) (x0 : Nat) (x2 : Int32) (x3 : Int32) (x4 : Int32) (x5 : Int64) (x7 : Int64) (x9 : Int32)  (g : ZS) : Option ((Int64 × Int64 × Int32) ⊕ (Int32 × ZS)) :=
  if x4 < x9 then
    (
      (f_X12_power N (10 : Int64) x4).bind fun v1 =>
      (t_X12_common x5 v1).bind fun v2 =>
      (zwrI g x0 12 9 (0 : Int32)).bind fun g3 =>
      if v2 = 0 then none else
      zvs g3 x0 12 <| (f_X12_tell x0 (x5 / v2) g3).bind fun g4 =>
      if v2 = 0 then none else
      zvs g4 x0 12 <| (f_X12_tell x0 (v1 / v2) g4).bind fun g5 =>
      some ((0 : Int32), g5)).map Sum.inr
  else
    if x9 < x3 then
      f_X12_sure_102 N x0 x2 x3 x4 x7 x9 x5 (0 : Int64) g
    else
      (f_X12_power N x2.toInt64 x9).bind fun v6 =>
      (f_X12_power N (((10 : Int32) - x2).toInt64) (x4 - x9)).bind fun v7 =>
      f_X12_sure_102 N x0 x2 x3 x4 x7 x9 x5 ((x7 * v6) * v7) g

def f_X12_sure (N : Nat) (x0 : Nat) (x1 : Int32) (x2 : Int32) (x3 : Int32)  (g : ZS) : Option (Int32 × ZS) :=
  (zwrI g x0 12 10 (0 : Int32)).bind fun g1 =>
  zvs g1 x0 12 <| (f_X12_isParrot x0 x1 g1).bind fun v2 =>
  if v2 = 0 then
    f_X12_sure_33 N g1
  else
    (f_X12_in x2 (0 : Int32) (10 : Int32)).bind fun v3 =>
    if v3 = 0 then
      f_X12_sure_33 N g1
    else
      (f_X12_in x3 (0 : Int32) (8 : Int32)).bind fun v4 =>
      if v4 = 0 then
        f_X12_sure_33 N g1
      else
        (zrdR g1 x0 12 0).bind fun v5 =>
        (zrdR g1 x0 12 22).bind fun v6 =>
        zvs g1 x0 12 <| (f_X12_laySays N x0 v5 x1 v6 g1).bind fun r7 =>
        zloop (fun s => f_X12_sure_59 N x0 x2 x3 r7.1 s.1 s.2.1 s.2.2 r7.2) N ((0 : Int64), (1 : Int64), (0 : Int32))

def f_X12_fits_50 (N : Nat)  (s0 : Int32) (g : ZS) : Option (Int32 × ZS) :=
  if vp_nar .boolean s0 = s0 then some (s0, g) else none

def f_X12_fits_69 (N : Nat)  (s0 : Int32) (g : ZS) : Option (Int32 × ZS) :=
  if vp_nar .boolean s0 = s0 then some (s0, g) else none

def f_X12_fits_89 (N : Nat)  (s0 : Int32) (g : ZS) : Option (Int32 × ZS) :=
  if vp_nar .boolean s0 = s0 then some (s0, g) else none

def f_X12_fits_105 (N : Nat)  (s0 : Int32) (g : ZS) : Option (Int32 × ZS) :=
  if vp_nar .boolean s0 = s0 then some (s0, g) else none

def f_X12_fits (N : Nat) (x0 : Nat) (x1 : Int32) (x2 : Int32) (x3 : Int32)  (g : ZS) : Option (Int32 × ZS) :=
  zcase x2 [
    ((0 : Int32),
      (zrdR g x0 12 0).bind fun v1 =>
      zvs g x0 12 <| (f_X12_placeOf N x0 v1 x1 x3 g).bind fun r2 =>
      if r2.1 < 0 then
        f_X12_fits_50 N (0 : Int32) r2.2
      else
        f_X12_fits_50 N (1 : Int32) r2.2),
    ((1 : Int32),
      (zrdR g x0 12 0).bind fun v3 =>
      zvs g x0 12 <| (f_X12_placeOf N x0 v3 x1 x3 g).bind fun r4 =>
      if 0 ≤ r4.1 then
        f_X12_fits_69 N (0 : Int32) r4.2
      else
        f_X12_fits_69 N (1 : Int32) r4.2),
    ((2 : Int32),
      (zrdR g x0 12 0).bind fun v5 =>
      (f_X12_of x1 (0 : Int32)).bind fun v6 =>
      (zald 20 g v5 v6).bind fun v7 =>
      if v7 = x3 then
        f_X12_fits_89 N (1 : Int32) g
      else
        f_X12_fits_89 N (0 : Int32) g),
    ((3 : Int32),
      (zrdR g x0 12 2).bind fun v8 =>
      (zald 20 g v8 x1).bind fun v9 =>
      if v9 < x3 then
        f_X12_fits_105 N (0 : Int32) g
      else
        f_X12_fits_105 N (1 : Int32) g)] (
    (zrdR g x0 12 0).bind fun v10 =>
    zvs g x0 12 <| (f_X12_isFirst N x0 v10 x1 x3 g).bind fun r11 =>
    if vp_nar .boolean r11.1 = r11.1 then some (r11.1, r11.2) else none)

def f_X12_fitting_57 (N : Nat) (x0 : Nat) (x1 : Int32) (x2 : Int32) (x4 : Int32) (s0 : Int32) (g : ZS) : Option ((Int32 × Int32 × ZS) ⊕ ((Int32 × Int32 × ZS) ⊕ (Int32 × ZS))) :=
  some (.inl (s0, x4 + (1 : Int32), g))

def f_X12_fitting_56 (N : Nat) (x0 : Nat) (x1 : Int32) (x2 : Int32) (x4 : Int32)  (g : ZS) : Option ((Int32 × Int32 × ZS) ⊕ ((Int32 × Int32 × ZS) ⊕ (Int32 × ZS))) :=
  f_X12_fitting_57 N x0 x1 x2 x4 (0 : Int32) g

def f_X12_fitting_76 (N : Nat) (x0 : Nat) (x2 : Int32) (s0 : Int32) (s1 : Int32) (g : ZS) : Option ((Int32 × Int32 × ZS) ⊕ (Int32 × ZS)) :=
  some (.inl (s0 ||| s1, x2 + (1 : Int32), g))

def f_X12_fitting_17 (N : Nat) (x0 : Nat) (x1 : Int32) (x2 : Int32) (x3 : Int32) (x4 : Int32)  (g : ZS) : Option ((Int32 × Int32 × ZS) ⊕ ((Int32 × Int32 × ZS) ⊕ (Int32 × ZS))) :=
  (zrdI g x0 12 41).bind fun v1 =>
  if v1 ≤ x4 then
    (
      if x3 = 0 then
        f_X12_fitting_76 N x0 x2 x1 (0 : Int32) g
      else
        f_X12_fitting_76 N x0 x2 x1 ((1 : Int32) <<< (x2 &&& 31)) g).map Sum.inr
  else
    if x3 = 0 then
      f_X12_fitting_56 N x0 x1 x2 x4 g
    else
      (zrdR g x0 12 39).bind fun v2 =>
      (zald 20 g v2 x4).bind fun v3 =>
      (zrdR g x0 12 40).bind fun v4 =>
      (zald 20 g v4 x4).bind fun v5 =>
      zvs g x0 12 <| (f_X12_fits N x0 x2 v3 v5 g).bind fun r6 =>
      if r6.1 = 0 then
        f_X12_fitting_56 N x0 x1 x2 x4 r6.2
      else
        f_X12_fitting_57 N x0 x1 x2 x4 (1 : Int32) r6.2

def f_X12_fitting_4 (N : Nat) (x0 : Nat) (x1 : Int32) (x2 : Int32)  (g : ZS) : Option ((Int32 × Int32 × ZS) ⊕ (Int32 × ZS)) :=
  (zrdI g x0 12 1).bind fun v1 =>
  if v1 ≤ x2 then
    (
      some (x1, g)).map Sum.inr
  else
    zloop (fun s => f_X12_fitting_17 N x0 x1 x2 s.1 s.2.1 s.2.2) N ((1 : Int32), (0 : Int32), g)

def f_X12_fitting (N : Nat) (x0 : Nat)  (g : ZS) : Option (Int32 × ZS) :=
  zloop (fun s => f_X12_fitting_4 N x0 s.1 s.2.1 s.2.2) N ((0 : Int32), (0 : Int32), g)

def f_X12_fits_ (N : Nat) (x0 : Nat)  (g : ZS) : Option (Int32 × ZS) :=
  (zwrI g x0 12 10 (0 : Int32)).bind fun g1 =>
  (zwrI g1 x0 12 9 (0 : Int32)).bind fun g2 =>
  zvs g2 x0 12 <| (f_X12_fitting N x0 g2).bind fun r3 =>
  (f_J6_bitCount_0f7a4 r3.1).bind fun v4 =>
  zvs r3.2 x0 12 <| (f_X12_tell x0 v4.toInt64 r3.2).bind fun g5 =>
  zvs g5 x0 12 <| (f_X12_fitting N x0 g5).bind fun r6 =>
  some (r6.1, r6.2)

def f_X12_ask_76 (N : Nat) (x0 : Nat) (x1 : Int32) (x2 : Int32) (x3 : Int32) (x4 : Int32) (x6 : Int32) (s0 : Int32) (s1 : Int32) (g : ZS) : Option ((Int32 × Int32 × ZS) ⊕ ((Int32 × Int32 × Int32 × ZS) ⊕ (Int32 × ZS))) :=
  some (.inl (s0 + s1, x6 + (1 : Int32), g))

def f_X12_ask_75 (N : Nat) (x0 : Nat) (x1 : Int32) (x2 : Int32) (x3 : Int32) (x4 : Int32) (x6 : Int32) (s0 : Int32) (g : ZS) : Option ((Int32 × Int32 × ZS) ⊕ ((Int32 × Int32 × Int32 × ZS) ⊕ (Int32 × ZS))) :=
  f_X12_ask_76 N x0 x1 x2 x3 x4 x6 s0 (0 : Int32) g

def f_X12_ask_114 (N : Nat) (x0 : Nat) (x1 : Int32) (x2 : Int32) (x3 : Int32) (x4 : Int32)  (g : ZS) : Option ((Int32 × Int32 × Int32 × ZS) ⊕ (Int32 × ZS)) :=
  some (.inl (x2, x3, x4 + (1 : Int32), g))

def f_X12_ask_39 (N : Nat) (x0 : Nat) (x1 : Int32) (x2 : Int32) (x3 : Int32) (x4 : Int32) (x5 : Int32) (x6 : Int32)  (g : ZS) : Option ((Int32 × Int32 × ZS) ⊕ ((Int32 × Int32 × Int32 × ZS) ⊕ (Int32 × ZS))) :=
  (zrdI g x0 12 1).bind fun v1 =>
  if v1 ≤ x6 then
    (
      (f_J6_bitCount_0f7a4 x1).bind fun v2 =>
      (f_J9_max_7cf53 x5 (v2 - x5)).bind fun v3 =>
      if v3 < x3 then
        f_X12_ask_114 N x0 x1 x4 v3 x4 g
      else
        f_X12_ask_114 N x0 x1 x2 x3 x4 g).map Sum.inr
  else
    (f_X12_has x1 x6).bind fun v4 =>
    if v4 = 0 then
      f_X12_ask_75 N x0 x1 x2 x3 x4 x6 x5 g
    else
      zvs g x0 12 <| (f_X12_fits N x0 x6 (0 : Int32) x4 g).bind fun r5 =>
      if r5.1 = 0 then
        f_X12_ask_75 N x0 x1 x2 x3 x4 x6 x5 r5.2
      else
        f_X12_ask_76 N x0 x1 x2 x3 x4 x6 x5 (1 : Int32) r5.2

def f_X12_ask_26 (N : Nat) (x0 : Nat) (x1 : Int32) (x2 : Int32) (x3 : Int32) (x4 : Int32)  (g : ZS) : Option ((Int32 × Int32 × Int32 × ZS) ⊕ (Int32 × ZS)) :=
  if (8 : Int32) ≤ x4 then
    (
      (zwrI g x0 12 9 (0 : Int32)).bind fun g1 =>
      zvs g1 x0 12 <| (f_X12_tell x0 x3.toInt64 g1).bind fun g2 =>
      some (x2, g2)).map Sum.inr
  else
    zloop (fun s => f_X12_ask_39 N x0 x1 x2 x3 x4 s.1 s.2.1 s.2.2) N ((0 : Int32), (0 : Int32), g)

def f_X12_ask (N : Nat) (x0 : Nat)  (g : ZS) : Option (Int32 × ZS) :=
  (zwrI g x0 12 10 (0 : Int32)).bind fun g1 =>
  zvs g1 x0 12 <| (f_X12_fitting N x0 g1).bind fun r2 =>
  if r2.1 = 0 then
    some ((-2 : Int32), r2.2)
  else
    zloop (fun s => f_X12_ask_26 N x0 r2.1 s.1 s.2.1 s.2.2.1 s.2.2.2) N ((-1 : Int32), (1000000 : Int32), (0 : Int32), r2.2)

theorem j_X12_isFirst_15 {X : ZX} (N : Nat)  (s0 : Int32)  (g : ZS) {K : (Int32 × ZS) → Prop} (h0 : ∀ v g, K (v, g) → xK X (some (.int v)) g) : J Y_X12_isFirst X 0 0 15 [none, none, none, none] [.int s0] g (f_X12_isFirst_15 N s0 g) K := by
  unfold f_X12_isFirst_15
  exact J_retZ (show Dc Y_X12_isFirst 15 (.ireturn) 1 16 from ⟨by decide +kernel, rfl⟩) rfl (h0 _ _) (by decide) (by decide)

theorem j_X12_isFirst {X : ZX} (N : Nat) (x0 : Nat) (x1 : Nat) (x2 : Int32) (x3 : Int32)   (g : ZS) {K : (Int32 × ZS) → Prop} (h0 : ∀ v g, K (v, g) → xK X (some (.int v)) g) : J Y_X12_isFirst X 0 0 0 [some (.ref x0), some (.ref x1), some (.int x2), some (.int x3)] [] g (f_X12_isFirst N x0 x1 x2 x3 g) K := by
  unfold f_X12_isFirst
  refine J_aload_n rfl rfl (show Dc Y_X12_isFirst 0 (.aload_n 0) 1 1 from ⟨by decide +kernel, rfl⟩) ?_
  refine J_aload_n rfl rfl (show Dc Y_X12_isFirst 1 (.aload_n 1) 1 2 from ⟨by decide +kernel, rfl⟩) ?_
  refine J_iload_n rfl rfl (show Dc Y_X12_isFirst 2 (.iload_n 2) 1 3 from ⟨by decide +kernel, rfl⟩) ?_
  refine J_iload_n rfl rfl (show Dc Y_X12_isFirst 3 (.iload_n 3) 1 4 from ⟨by decide +kernel, rfl⟩) ?_
  refine J_callVi (fun r => r.1) (fun r => r.2) (show Dc Y_X12_isFirst 4 (.invokevirtual 316) 3 7 from ⟨by decide +kernel, rfl⟩) w_m_RX12_316 w_in_X12_placeOf rfl w_se_X12_placeOf w_cw_X12_placeOf (c_X12_placeOf N x0 x1 x2 x3 g) rfl rfl (by decide) (Nat.le_of_ble_eq_true rfl) (by decide) (by decide) (fun r1 => ?_)
  refine J_if_ne (tg := 14) (show Dc Y_X12_isFirst 7 (.ifCond .ne 7) 3 10 from ⟨by decide +kernel, rfl⟩) (by decide) (fun h => ?_) (fun h => ?_)
  · refine J_iconst (0 : Int32) rfl (show Dc Y_X12_isFirst 14 (.iconst 0) 1 15 from ⟨by decide +kernel, rfl⟩) ?_
    refine J_mask [false, false, false, false] ?_
    exact j_X12_isFirst_15 N (0 : Int32) r1.2 h0
  · refine J_iconst (1 : Int32) rfl (show Dc Y_X12_isFirst 10 (.iconst 1) 1 11 from ⟨by decide +kernel, rfl⟩) ?_
    refine J_goto (tg := 15) (show Dc Y_X12_isFirst 11 (.goto 4) 3 14 from ⟨by decide +kernel, rfl⟩) (by decide) ?_
    refine J_mask [false, false, false, false] ?_
    exact j_X12_isFirst_15 N (1 : Int32) r1.2 h0

theorem c_X12_isFirst {l : Launch} {D : ZD} {B0 : Nat} (N : Nat) (x0 : Nat) (x1 : Nat) (x2 : Int32) (x3 : Int32) (g : ZS) : ∀ r, f_X12_isFirst N x0 x1 x2 x3 g = some r → zCt l D B0 yX12_isFirst Y_X12_isFirst [.ref x0, .ref x1, .int x2, .int x3] g (some (.int r.1)) r.2 :=
  zCt_ofF (vo := fun r => some (.int r.1)) (so := fun r => r.2) (by decide +kernel) rfl (fun h => by cases h) rfl (Nat.le_of_ble_eq_true rfl) (fun X => j_X12_isFirst N x0 x1 x2 x3 g (fun _ _ h => h))

theorem j_X12_crackers_20 {X : ZX} (N : Nat)    (g : ZS) {K : (Int32 × ZS) → Prop} (h0 : ∀ v g, K (v, g) → xK X (some (.int v)) g) : J Y_X12_crackers X 0 0 20 [none, none, none, none] [] g (f_X12_crackers_20 N g) K := by
  unfold f_X12_crackers_20
  refine J_iconst (-1 : Int32) rfl (show Dc Y_X12_crackers 20 (.iconst (-1)) 1 21 from ⟨by decide +kernel, rfl⟩) ?_
  exact J_reti (show Dc Y_X12_crackers 21 (.ireturn) 1 22 from ⟨by decide +kernel, rfl⟩) rfl (h0 _ _) (by decide) (by decide)

theorem j_X12_crackers_39 {X : ZX} (N : Nat) (x0 : Nat) (x1 : Int32) (x2 : Int32) (x3 : Int32)   (g : ZS) {K : ((Int32 × ZS) ⊕ (Int32 × ZS)) → Prop} (h0 : ∀ v g, K (.inr (v, g)) → xK X (some (.int v)) g) (hL39 : ∀ s, K (.inl s) → zG Y_X12_crackers X 0 0 39 [some (.ref x0), some (.int x1), some (.int x2), some (.int s.1)] [] s.2) : J Y_X12_crackers X 0 0 39 [some (.ref x0), some (.int x1), some (.int x2), some (.int x3)] [] g (f_X12_crackers_39 N x0 x1 x2 x3 g) K := by
  unfold f_X12_crackers_39
  refine J_iload_n rfl rfl (show Dc Y_X12_crackers 39 (.iload_n 3) 1 40 from ⟨by decide +kernel, rfl⟩) ?_
  refine J_bipush (40 : Int32) rfl (show Dc Y_X12_crackers 40 (.bipush 40) 2 42 from ⟨by decide +kernel, rfl⟩) ?_
  refine J_icmp_gt (tg := 88) (show Dc Y_X12_crackers 42 (.if_icmp .gt 46) 3 45 from ⟨by decide +kernel, rfl⟩) (by decide) (fun h => ?_) (fun h => ?_)
  · refine J_map (f := Sum.inr) (fun _ h => h) ?_
    refine J_bipush (-2 : Int32) rfl (show Dc Y_X12_crackers 88 (.bipush (-2)) 2 90 from ⟨by decide +kernel, rfl⟩) ?_
    exact J_reti (show Dc Y_X12_crackers 90 (.ireturn) 1 91 from ⟨by decide +kernel, rfl⟩) rfl (h0 _ _) (by decide) (by decide)
  · refine J_aload_n rfl rfl (show Dc Y_X12_crackers 45 (.aload_n 0) 1 46 from ⟨by decide +kernel, rfl⟩) ?_
    refine J_getR (show Dc Y_X12_crackers 46 (.getfield 9) 3 49 from ⟨by decide +kernel, rfl⟩) w_f_RX12_9 rfl (fun v1 => ?_)
    refine J_aload_n rfl rfl (show Dc Y_X12_crackers 49 (.aload_n 0) 1 50 from ⟨by decide +kernel, rfl⟩) ?_
    refine J_getR (show Dc Y_X12_crackers 50 (.getfield 60) 3 53 from ⟨by decide +kernel, rfl⟩) w_f_RX12_60 rfl (fun v2 => ?_)
    refine J_iconst (0 : Int32) rfl (show Dc Y_X12_crackers 53 (.iconst 0) 1 54 from ⟨by decide +kernel, rfl⟩) ?_
    refine J_callSv (fun r => r) (show Dc Y_X12_crackers 54 (.invokestatic 253) 3 57 from ⟨by decide +kernel, rfl⟩) w_m_RX12_253 w_st_X12_lay w_cw_X12_lay (c_X12_lay N v1 v2 (0 : Int32) g) rfl rfl (by decide) (Nat.le_of_ble_eq_true rfl) (by decide) (by decide) (fun g3 => ?_)
    refine J_aload_n rfl rfl (show Dc Y_X12_crackers 57 (.aload_n 0) 1 58 from ⟨by decide +kernel, rfl⟩) ?_
    refine J_getR (show Dc Y_X12_crackers 58 (.getfield 60) 3 61 from ⟨by decide +kernel, rfl⟩) w_f_RX12_60 rfl (fun v4 => ?_)
    refine J_iload_n rfl rfl (show Dc Y_X12_crackers 61 (.iload_n 1) 1 62 from ⟨by decide +kernel, rfl⟩) ?_
    refine J_iload_n rfl rfl (show Dc Y_X12_crackers 62 (.iload_n 2) 1 63 from ⟨by decide +kernel, rfl⟩) ?_
    refine J_iload_n rfl rfl (show Dc Y_X12_crackers 63 (.iload_n 3) 1 64 from ⟨by decide +kernel, rfl⟩) ?_
    refine J_callSv (fun r => r) (show Dc Y_X12_crackers 64 (.invokestatic 287) 3 67 from ⟨by decide +kernel, rfl⟩) w_m_RX12_287 w_st_X12_goTeach w_cw_X12_goTeach (c_X12_goTeach v4 x1 x2 x3 g3) rfl rfl (by decide) (Nat.le_of_ble_eq_true rfl) (by decide) (by decide) (fun g5 => ?_)
    refine J_aload_n rfl rfl (show Dc Y_X12_crackers 67 (.aload_n 0) 1 68 from ⟨by decide +kernel, rfl⟩) ?_
    refine J_aload_n rfl rfl (show Dc Y_X12_crackers 68 (.aload_n 0) 1 69 from ⟨by decide +kernel, rfl⟩) ?_
    refine J_getR (show Dc Y_X12_crackers 69 (.getfield 60) 3 72 from ⟨by decide +kernel, rfl⟩) w_f_RX12_60 rfl (fun v6 => ?_)
    refine J_iload_n rfl rfl (show Dc Y_X12_crackers 72 (.iload_n 1) 1 73 from ⟨by decide +kernel, rfl⟩) ?_
    refine J_iload_n rfl rfl (show Dc Y_X12_crackers 73 (.iload_n 2) 1 74 from ⟨by decide +kernel, rfl⟩) ?_
    refine J_callVi (fun r => r.1) (fun r => r.2) (show Dc Y_X12_crackers 74 (.invokevirtual 325) 3 77 from ⟨by decide +kernel, rfl⟩) w_m_RX12_325 w_in_X12_isFirst rfl w_se_X12_isFirst w_cw_X12_isFirst (c_X12_isFirst N x0 v6 x1 x2 g5) rfl rfl (by decide) (Nat.le_of_ble_eq_true rfl) (by decide) (by decide) (fun r7 => ?_)
    refine J_if_eq (tg := 82) (show Dc Y_X12_crackers 77 (.ifCond .eq 5) 3 80 from ⟨by decide +kernel, rfl⟩) (by decide) (fun h => ?_) (fun h => ?_)
    · refine J_iinc (1 : Int32) [some (.ref x0), some (.int x1), some (.int x2), some (.int (x3 + (1 : Int32)))] (show Dc Y_X12_crackers 82 (.iinc 3 1) 3 85 from ⟨by decide +kernel, rfl⟩) rfl rfl (by decide) rfl rfl ?_
      refine J_goto (tg := 39) (show Dc Y_X12_crackers 85 (.goto (-46)) 3 88 from ⟨by decide +kernel, rfl⟩) (by decide) ?_
      exact J_leaf (fun h => hL39 (x3 + (1 : Int32), r7.2) h)
    · refine J_map (f := Sum.inr) (fun _ h => h) ?_
      refine J_iload_n rfl rfl (show Dc Y_X12_crackers 80 (.iload_n 3) 1 81 from ⟨by decide +kernel, rfl⟩) ?_
      exact J_reti (show Dc Y_X12_crackers 81 (.ireturn) 1 82 from ⟨by decide +kernel, rfl⟩) rfl (h0 _ _) (by decide) (by decide)

theorem j_X12_crackers {X : ZX} (N : Nat) (x0 : Nat) (x1 : Int32) (x2 : Int32)   (g : ZS) {K : (Int32 × ZS) → Prop} (h0 : ∀ v g, K (v, g) → xK X (some (.int v)) g) : J Y_X12_crackers X 0 0 0 [some (.ref x0), some (.int x1), some (.int x2), none] [] g (f_X12_crackers N x0 x1 x2 g) K := by
  unfold f_X12_crackers
  refine J_aload_n rfl rfl (show Dc Y_X12_crackers 0 (.aload_n 0) 1 1 from ⟨by decide +kernel, rfl⟩) ?_
  refine J_iconst (0 : Int32) rfl (show Dc Y_X12_crackers 1 (.iconst 0) 1 2 from ⟨by decide +kernel, rfl⟩) ?_
  refine J_putI (show Dc Y_X12_crackers 2 (.putfield 109) 3 5 from ⟨by decide +kernel, rfl⟩) w_f_RX12_109 rfl rfl (fun g1 => ?_) (fun h => by cases h)
  refine J_aload_n rfl rfl (show Dc Y_X12_crackers 5 (.aload_n 0) 1 6 from ⟨by decide +kernel, rfl⟩) ?_
  refine J_iload_n rfl rfl (show Dc Y_X12_crackers 6 (.iload_n 1) 1 7 from ⟨by decide +kernel, rfl⟩) ?_
  refine J_callVi (fun r => r) (fun _ => g1) (show Dc Y_X12_crackers 7 (.invokevirtual 234) 3 10 from ⟨by decide +kernel, rfl⟩) w_m_RX12_234 w_in_X12_isParrot rfl w_se_X12_isParrot w_cw_X12_isParrot (c_X12_isParrot x0 x1 g1) rfl rfl (by decide) (Nat.le_of_ble_eq_true rfl) (by decide) (by decide) (fun v2 => ?_)
  refine J_if_eq (tg := 20) (show Dc Y_X12_crackers 10 (.ifCond .eq 10) 3 13 from ⟨by decide +kernel, rfl⟩) (by decide) (fun h => ?_) (fun h => ?_)
  · refine J_mask [false, false, false, false] ?_
    exact j_X12_crackers_20 N g1 h0
  · refine J_iload_n rfl rfl (show Dc Y_X12_crackers 13 (.iload_n 2) 1 14 from ⟨by decide +kernel, rfl⟩) ?_
    refine J_callSi (fun r => r) (fun _ => g1) (show Dc Y_X12_crackers 14 (.invokestatic 244) 3 17 from ⟨by decide +kernel, rfl⟩) w_m_RX12_244 w_st_X12_isWord w_cw_X12_isWord (c_X12_isWord x2 g1) rfl rfl (by decide) (Nat.le_of_ble_eq_true rfl) (by decide) (by decide) (fun v3 => ?_)
    refine J_if_ne (tg := 22) (show Dc Y_X12_crackers 17 (.ifCond .ne 5) 3 20 from ⟨by decide +kernel, rfl⟩) (by decide) (fun h => ?_) (fun h => ?_)
    · refine J_aload_n rfl rfl (show Dc Y_X12_crackers 22 (.aload_n 0) 1 23 from ⟨by decide +kernel, rfl⟩) ?_
      refine J_getR (show Dc Y_X12_crackers 23 (.getfield 9) 3 26 from ⟨by decide +kernel, rfl⟩) w_f_RX12_9 rfl (fun v4 => ?_)
      refine J_iload_n rfl rfl (show Dc Y_X12_crackers 26 (.iload_n 1) 1 27 from ⟨by decide +kernel, rfl⟩) ?_
      refine J_iload_n rfl rfl (show Dc Y_X12_crackers 27 (.iload_n 2) 1 28 from ⟨by decide +kernel, rfl⟩) ?_
      refine J_callSi (fun r => r) (fun _ => g1) (show Dc Y_X12_crackers 28 (.invokestatic 221) 3 31 from ⟨by decide +kernel, rfl⟩) w_m_RX12_221 w_st_X12_hasHeard w_cw_X12_hasHeard (c_X12_hasHeard v4 x1 x2 g1) rfl rfl (by decide) (Nat.le_of_ble_eq_true rfl) (by decide) (by decide) (fun v5 => ?_)
      refine J_if_ne (tg := 37) (show Dc Y_X12_crackers 31 (.ifCond .ne 6) 3 34 from ⟨by decide +kernel, rfl⟩) (by decide) (fun h => ?_) (fun h => ?_)
      · refine J_iconst (0 : Int32) rfl (show Dc Y_X12_crackers 37 (.iconst 0) 1 38 from ⟨by decide +kernel, rfl⟩) ?_
        refine J_istore_n [some (.ref x0), some (.int x1), some (.int x2), some (.int (0 : Int32))] (show Dc Y_X12_crackers 38 (.istore_n 3) 1 39 from ⟨by decide +kernel, rfl⟩) rfl (by decide) rfl rfl ?_
        exact J_loop (X := X) (K := K) (uc := fun _ => 0) (us := fun _ => 0) (lf := fun s => [some (.ref x0), some (.int x1), some (.int x2), some (.int s.1)]) (gf := fun s => s.2) (fun s => j_X12_crackers_39 (K := zKl Y_X12_crackers X 39 (fun _ => 0) (fun _ => 0) (fun s => [some (.ref x0), some (.int x1), some (.int x2), some (.int s.1)]) (fun s => s.2) K) N x0 x1 x2 s.1 s.2 h0 (fun s h => h)) N ((0 : Int32), g1)
      · refine J_bipush (-2 : Int32) rfl (show Dc Y_X12_crackers 34 (.bipush (-2)) 2 36 from ⟨by decide +kernel, rfl⟩) ?_
        exact J_reti (show Dc Y_X12_crackers 36 (.ireturn) 1 37 from ⟨by decide +kernel, rfl⟩) rfl (h0 _ _) (by decide) (by decide)
    · refine J_mask [false, false, false, false] ?_
      exact j_X12_crackers_20 N g1 h0

theorem c_X12_crackers {l : Launch} {D : ZD} {B0 : Nat} (N : Nat) (x0 : Nat) (x1 : Int32) (x2 : Int32) (g : ZS) : ∀ r, f_X12_crackers N x0 x1 x2 g = some r → zCt l D B0 yX12_crackers Y_X12_crackers [.ref x0, .int x1, .int x2] g (some (.int r.1)) r.2 :=
  zCt_ofF (vo := fun r => some (.int r.1)) (so := fun r => r.2) (by decide +kernel) rfl (fun h => by cases h) rfl (Nat.le_of_ble_eq_true rfl) (fun X => j_X12_crackers N x0 x1 x2 g (fun _ _ h => h))

theorem j_X12_stay_27 {X : ZX} (N : Nat)    (g : ZS) {K : (Int32 × ZS) → Prop} (h0 : ∀ v g, K (v, g) → xK X (some (.int v)) g) : J Y_X12_stay X 0 0 27 [none, none, none, none, none] [] g (f_X12_stay_27 N g) K := by
  unfold f_X12_stay_27
  refine J_iconst (-1 : Int32) rfl (show Dc Y_X12_stay 27 (.iconst (-1)) 1 28 from ⟨by decide +kernel, rfl⟩) ?_
  exact J_reti (show Dc Y_X12_stay 28 (.ireturn) 1 29 from ⟨by decide +kernel, rfl⟩) rfl (h0 _ _) (by decide) (by decide)

theorem j_X12_stay_66 {X : ZX} (N : Nat) (x0 : Nat) (x1 : Int32) (x3 : Int32) (x4 : Int32)   (g : ZS) {K : ((Int32 × ZS) ⊕ (Int32 × ZS)) → Prop} (h0 : ∀ v g, K (.inr (v, g)) → xK X (some (.int v)) g) (hL66 : ∀ s, K (.inl s) → zG Y_X12_stay X 0 0 66 [some (.ref x0), some (.int x1), none, some (.int x3), some (.int s.1)] [] s.2) : J Y_X12_stay X 0 0 66 [some (.ref x0), some (.int x1), none, some (.int x3), some (.int x4)] [] g (f_X12_stay_66 N x0 x1 x3 x4 g) K := by
  unfold f_X12_stay_66
  refine J_iload rfl (show Dc Y_X12_stay 66 (.iload 4) 2 68 from ⟨by decide +kernel, rfl⟩) ?_
  refine J_bipush (60 : Int32) rfl (show Dc Y_X12_stay 68 (.bipush 60) 2 70 from ⟨by decide +kernel, rfl⟩) ?_
  refine J_icmp_gt (tg := 104) (show Dc Y_X12_stay 70 (.if_icmp .gt 34) 3 73 from ⟨by decide +kernel, rfl⟩) (by decide) (fun h => ?_) (fun h => ?_)
  · refine J_map (f := Sum.inr) (fun _ h => h) ?_
    refine J_bipush (-2 : Int32) rfl (show Dc Y_X12_stay 104 (.bipush (-2)) 2 106 from ⟨by decide +kernel, rfl⟩) ?_
    exact J_reti (show Dc Y_X12_stay 106 (.ireturn) 1 107 from ⟨by decide +kernel, rfl⟩) rfl (h0 _ _) (by decide) (by decide)
  · refine J_aload_n rfl rfl (show Dc Y_X12_stay 73 (.aload_n 0) 1 74 from ⟨by decide +kernel, rfl⟩) ?_
    refine J_aload_n rfl rfl (show Dc Y_X12_stay 74 (.aload_n 0) 1 75 from ⟨by decide +kernel, rfl⟩) ?_
    refine J_getR (show Dc Y_X12_stay 75 (.getfield 60) 3 78 from ⟨by decide +kernel, rfl⟩) w_f_RX12_60 rfl (fun v1 => ?_)
    refine J_iload_n rfl rfl (show Dc Y_X12_stay 78 (.iload_n 1) 1 79 from ⟨by decide +kernel, rfl⟩) ?_
    refine J_iload_n rfl rfl (show Dc Y_X12_stay 79 (.iload_n 3) 1 80 from ⟨by decide +kernel, rfl⟩) ?_
    refine J_callVi (fun r => r.1) (fun r => r.2) (show Dc Y_X12_stay 80 (.invokevirtual 325) 3 83 from ⟨by decide +kernel, rfl⟩) w_m_RX12_325 w_in_X12_isFirst rfl w_se_X12_isFirst w_cw_X12_isFirst (c_X12_isFirst N x0 v1 x1 x3 g) rfl rfl (by decide) (Nat.le_of_ble_eq_true rfl) (by decide) (by decide) (fun r2 => ?_)
    refine J_if_eq (tg := 89) (show Dc Y_X12_stay 83 (.ifCond .eq 6) 3 86 from ⟨by decide +kernel, rfl⟩) (by decide) (fun h => ?_) (fun h => ?_)
    · refine J_aload_n rfl rfl (show Dc Y_X12_stay 89 (.aload_n 0) 1 90 from ⟨by decide +kernel, rfl⟩) ?_
      refine J_aload_n rfl rfl (show Dc Y_X12_stay 90 (.aload_n 0) 1 91 from ⟨by decide +kernel, rfl⟩) ?_
      refine J_getR (show Dc Y_X12_stay 91 (.getfield 60) 3 94 from ⟨by decide +kernel, rfl⟩) w_f_RX12_60 rfl (fun v3 => ?_)
      refine J_iconst (1 : Int32) rfl (show Dc Y_X12_stay 94 (.iconst 1) 1 95 from ⟨by decide +kernel, rfl⟩) ?_
      refine J_callVv (fun r => r) (show Dc Y_X12_stay 95 (.invokevirtual 265) 3 98 from ⟨by decide +kernel, rfl⟩) w_m_RX12_265 w_in_X12_goDays rfl w_se_X12_goDays w_cw_X12_goDays (c_X12_goDays N x0 v3 (1 : Int32) r2.2) rfl rfl (by decide) (Nat.le_of_ble_eq_true rfl) (by decide) (by decide) (fun g4 => ?_)
      refine J_iinc (1 : Int32) [some (.ref x0), some (.int x1), none, some (.int x3), some (.int (x4 + (1 : Int32)))] (show Dc Y_X12_stay 98 (.iinc 4 1) 3 101 from ⟨by decide +kernel, rfl⟩) rfl rfl (by decide) rfl rfl ?_
      refine J_goto (tg := 66) (show Dc Y_X12_stay 101 (.goto (-35)) 3 104 from ⟨by decide +kernel, rfl⟩) (by decide) ?_
      exact J_leaf (fun h => hL66 (x4 + (1 : Int32), g4) h)
    · refine J_map (f := Sum.inr) (fun _ h => h) ?_
      refine J_iload rfl (show Dc Y_X12_stay 86 (.iload 4) 2 88 from ⟨by decide +kernel, rfl⟩) ?_
      exact J_reti (show Dc Y_X12_stay 88 (.ireturn) 1 89 from ⟨by decide +kernel, rfl⟩) rfl (h0 _ _) (by decide) (by decide)

theorem j_X12_stay {X : ZX} (N : Nat) (x0 : Nat) (x1 : Int32) (x2 : Int32) (x3 : Int32)   (g : ZS) {K : (Int32 × ZS) → Prop} (h0 : ∀ v g, K (v, g) → xK X (some (.int v)) g) : J Y_X12_stay X 0 0 0 [some (.ref x0), some (.int x1), some (.int x2), some (.int x3), none] [] g (f_X12_stay N x0 x1 x2 x3 g) K := by
  unfold f_X12_stay
  refine J_aload_n rfl rfl (show Dc Y_X12_stay 0 (.aload_n 0) 1 1 from ⟨by decide +kernel, rfl⟩) ?_
  refine J_iconst (0 : Int32) rfl (show Dc Y_X12_stay 1 (.iconst 0) 1 2 from ⟨by decide +kernel, rfl⟩) ?_
  refine J_putI (show Dc Y_X12_stay 2 (.putfield 109) 3 5 from ⟨by decide +kernel, rfl⟩) w_f_RX12_109 rfl rfl (fun g1 => ?_) (fun h => by cases h)
  refine J_aload_n rfl rfl (show Dc Y_X12_stay 5 (.aload_n 0) 1 6 from ⟨by decide +kernel, rfl⟩) ?_
  refine J_iload_n rfl rfl (show Dc Y_X12_stay 6 (.iload_n 1) 1 7 from ⟨by decide +kernel, rfl⟩) ?_
  refine J_callVi (fun r => r) (fun _ => g1) (show Dc Y_X12_stay 7 (.invokevirtual 234) 3 10 from ⟨by decide +kernel, rfl⟩) w_m_RX12_234 w_in_X12_isParrot rfl w_se_X12_isParrot w_cw_X12_isParrot (c_X12_isParrot x0 x1 g1) rfl rfl (by decide) (Nat.le_of_ble_eq_true rfl) (by decide) (by decide) (fun v2 => ?_)
  refine J_if_eq (tg := 27) (show Dc Y_X12_stay 10 (.ifCond .eq 17) 3 13 from ⟨by decide +kernel, rfl⟩) (by decide) (fun h => ?_) (fun h => ?_)
  · refine J_mask [false, false, false, false, false] ?_
    exact j_X12_stay_27 N g1 h0
  · refine J_iload_n rfl rfl (show Dc Y_X12_stay 13 (.iload_n 2) 1 14 from ⟨by decide +kernel, rfl⟩) ?_
    refine J_callSi (fun r => r) (fun _ => g1) (show Dc Y_X12_stay 14 (.invokestatic 171) 3 17 from ⟨by decide +kernel, rfl⟩) w_m_RX12_171 w_st_X12_isHouse w_cw_X12_isHouse (c_X12_isHouse x2 g1) rfl rfl (by decide) (Nat.le_of_ble_eq_true rfl) (by decide) (by decide) (fun v3 => ?_)
    refine J_if_eq (tg := 27) (show Dc Y_X12_stay 17 (.ifCond .eq 10) 3 20 from ⟨by decide +kernel, rfl⟩) (by decide) (fun h => ?_) (fun h => ?_)
    · refine J_mask [false, false, false, false, false] ?_
      exact j_X12_stay_27 N g1 h0
    · refine J_iload_n rfl rfl (show Dc Y_X12_stay 20 (.iload_n 3) 1 21 from ⟨by decide +kernel, rfl⟩) ?_
      refine J_callSi (fun r => r) (fun _ => g1) (show Dc Y_X12_stay 21 (.invokestatic 244) 3 24 from ⟨by decide +kernel, rfl⟩) w_m_RX12_244 w_st_X12_isWord w_cw_X12_isWord (c_X12_isWord x3 g1) rfl rfl (by decide) (Nat.le_of_ble_eq_true rfl) (by decide) (by decide) (fun v4 => ?_)
      refine J_if_ne (tg := 29) (show Dc Y_X12_stay 24 (.ifCond .ne 5) 3 27 from ⟨by decide +kernel, rfl⟩) (by decide) (fun h => ?_) (fun h => ?_)
      · refine J_aload_n rfl rfl (show Dc Y_X12_stay 29 (.aload_n 0) 1 30 from ⟨by decide +kernel, rfl⟩) ?_
        refine J_getR (show Dc Y_X12_stay 30 (.getfield 9) 3 33 from ⟨by decide +kernel, rfl⟩) w_f_RX12_9 rfl (fun v5 => ?_)
        refine J_aload_n rfl rfl (show Dc Y_X12_stay 33 (.aload_n 0) 1 34 from ⟨by decide +kernel, rfl⟩) ?_
        refine J_getR (show Dc Y_X12_stay 34 (.getfield 60) 3 37 from ⟨by decide +kernel, rfl⟩) w_f_RX12_60 rfl (fun v6 => ?_)
        refine J_iconst (0 : Int32) rfl (show Dc Y_X12_stay 37 (.iconst 0) 1 38 from ⟨by decide +kernel, rfl⟩) ?_
        refine J_callSv (fun r => r) (show Dc Y_X12_stay 38 (.invokestatic 253) 3 41 from ⟨by decide +kernel, rfl⟩) w_m_RX12_253 w_st_X12_lay w_cw_X12_lay (c_X12_lay N v5 v6 (0 : Int32) g1) rfl rfl (by decide) (Nat.le_of_ble_eq_true rfl) (by decide) (by decide) (fun g7 => ?_)
        refine J_aload_n rfl rfl (show Dc Y_X12_stay 41 (.aload_n 0) 1 42 from ⟨by decide +kernel, rfl⟩) ?_
        refine J_getR (show Dc Y_X12_stay 42 (.getfield 60) 3 45 from ⟨by decide +kernel, rfl⟩) w_f_RX12_60 rfl (fun v8 => ?_)
        refine J_iload_n rfl rfl (show Dc Y_X12_stay 45 (.iload_n 1) 1 46 from ⟨by decide +kernel, rfl⟩) ?_
        refine J_iconst (0 : Int32) rfl (show Dc Y_X12_stay 46 (.iconst 0) 1 47 from ⟨by decide +kernel, rfl⟩) ?_
        refine J_callSi (fun r => r) (fun _ => g7) (show Dc Y_X12_stay 47 (.invokestatic 179) 3 50 from ⟨by decide +kernel, rfl⟩) w_m_RX12_179 w_st_X12_of w_cw_X12_of (c_X12_of x1 (0 : Int32) g7) rfl rfl (by decide) (Nat.le_of_ble_eq_true rfl) (by decide) (by decide) (fun v9 => ?_)
        refine J_iload_n rfl rfl (show Dc Y_X12_stay 50 (.iload_n 2) 1 51 from ⟨by decide +kernel, rfl⟩) ?_
        refine J_iast (show Dc Y_X12_stay 51 (.iastore) 1 52 from ⟨by decide +kernel, rfl⟩) (fun g10 => ?_)
        refine J_aload_n rfl rfl (show Dc Y_X12_stay 52 (.aload_n 0) 1 53 from ⟨by decide +kernel, rfl⟩) ?_
        refine J_getR (show Dc Y_X12_stay 53 (.getfield 60) 3 56 from ⟨by decide +kernel, rfl⟩) w_f_RX12_60 rfl (fun v11 => ?_)
        refine J_iload_n rfl rfl (show Dc Y_X12_stay 56 (.iload_n 1) 1 57 from ⟨by decide +kernel, rfl⟩) ?_
        refine J_iconst (1 : Int32) rfl (show Dc Y_X12_stay 57 (.iconst 1) 1 58 from ⟨by decide +kernel, rfl⟩) ?_
        refine J_callSi (fun r => r) (fun _ => g10) (show Dc Y_X12_stay 58 (.invokestatic 179) 3 61 from ⟨by decide +kernel, rfl⟩) w_m_RX12_179 w_st_X12_of w_cw_X12_of (c_X12_of x1 (1 : Int32) g10) rfl rfl (by decide) (Nat.le_of_ble_eq_true rfl) (by decide) (by decide) (fun v12 => ?_)
        refine J_iconst (0 : Int32) rfl (show Dc Y_X12_stay 61 (.iconst 0) 1 62 from ⟨by decide +kernel, rfl⟩) ?_
        refine J_iast (show Dc Y_X12_stay 62 (.iastore) 1 63 from ⟨by decide +kernel, rfl⟩) (fun g13 => ?_)
        refine J_iconst (0 : Int32) rfl (show Dc Y_X12_stay 63 (.iconst 0) 1 64 from ⟨by decide +kernel, rfl⟩) ?_
        refine J_istore [some (.ref x0), some (.int x1), some (.int x2), some (.int x3), some (.int (0 : Int32))] (show Dc Y_X12_stay 64 (.istore 4) 2 66 from ⟨by decide +kernel, rfl⟩) (by decide) rfl rfl ?_
        refine J_mask [true, true, false, true, true] ?_
        exact J_loop (X := X) (K := K) (uc := fun _ => 0) (us := fun _ => 0) (lf := fun s => [some (.ref x0), some (.int x1), none, some (.int x3), some (.int s.1)]) (gf := fun s => s.2) (fun s => j_X12_stay_66 (K := zKl Y_X12_stay X 66 (fun _ => 0) (fun _ => 0) (fun s => [some (.ref x0), some (.int x1), none, some (.int x3), some (.int s.1)]) (fun s => s.2) K) N x0 x1 x3 s.1 s.2 h0 (fun s h => h)) N ((0 : Int32), g13)
      · refine J_mask [false, false, false, false, false] ?_
        exact j_X12_stay_27 N g1 h0

theorem c_X12_stay {l : Launch} {D : ZD} {B0 : Nat} (N : Nat) (x0 : Nat) (x1 : Int32) (x2 : Int32) (x3 : Int32) (g : ZS) : ∀ r, f_X12_stay N x0 x1 x2 x3 g = some r → zCt l D B0 yX12_stay Y_X12_stay [.ref x0, .int x1, .int x2, .int x3] g (some (.int r.1)) r.2 :=
  zCt_ofF (vo := fun r => some (.int r.1)) (so := fun r => r.2) (by decide +kernel) rfl (fun h => by cases h) rfl (Nat.le_of_ble_eq_true rfl) (fun X => j_X12_stay N x0 x1 x2 x3 g (fun _ _ h => h))

theorem j_X12_hear_26 {X : ZX} (N : Nat)    (g : ZS) {K : (Int32 × ZS) → Prop} (h0 : ∀ v g, K (v, g) → xK X (some (.int v)) g) : J Y_X12_hear X 0 0 26 [none, none, none, none, none, none, none] [] g (f_X12_hear_26 N g) K := by
  unfold f_X12_hear_26
  refine J_iconst (-1 : Int32) rfl (show Dc Y_X12_hear 26 (.iconst (-1)) 1 27 from ⟨by decide +kernel, rfl⟩) ?_
  exact J_reti (show Dc Y_X12_hear 27 (.ireturn) 1 28 from ⟨by decide +kernel, rfl⟩) rfl (h0 _ _) (by decide) (by decide)

theorem j_X12_hear_110 {X : ZX} (N : Nat) (x0 : Nat) (x1 : Int32) (x3 : Int32) (x4 : Int32) (x6 : Int32) (s0 : Int32) (s1 : Int32)  (g : ZS) {K : ((Int32 × Int32) ⊕ ((Int32 × Int32) ⊕ (Int32 × ZS))) → Prop} (h0 : ∀ v g, K (.inr (.inr (v, g))) → xK X (some (.int v)) g) (hL61 : ∀ s, K (.inr (.inl s)) → zG Y_X12_hear X 0 0 61 [some (.ref x0), some (.int x1), none, some (.int s.1), some (.int s.2), none, none] [] g) (hL78 : ∀ s, K (.inl s) → zG Y_X12_hear X 0 0 78 [some (.ref x0), some (.int x1), none, some (.int x3), some (.int x4), some (.int s.1), some (.int s.2)] [] g) : J Y_X12_hear X 0 0 110 [some (.ref x0), some (.int x1), none, some (.int x3), some (.int x4), none, some (.int x6)] [.int s1, .int s0] g (f_X12_hear_110 N x0 x1 x3 x4 x6 s0 s1 g) K := by
  unfold f_X12_hear_110
  refine J_ior (show Dc Y_X12_hear 110 (.ior) 1 111 from ⟨by decide +kernel, rfl⟩) ?_
  refine J_istore [some (.ref x0), some (.int x1), none, some (.int x3), some (.int x4), some (.int (s0 ||| s1)), some (.int x6)] (show Dc Y_X12_hear 111 (.istore 5) 2 113 from ⟨by decide +kernel, rfl⟩) (by decide) rfl rfl ?_
  refine J_iinc (1 : Int32) [some (.ref x0), some (.int x1), none, some (.int x3), some (.int x4), some (.int (s0 ||| s1)), some (.int (x6 + (1 : Int32)))] (show Dc Y_X12_hear 113 (.iinc 6 1) 3 116 from ⟨by decide +kernel, rfl⟩) rfl rfl (by decide) rfl rfl ?_
  refine J_goto (tg := 78) (show Dc Y_X12_hear 116 (.goto (-38)) 3 119 from ⟨by decide +kernel, rfl⟩) (by decide) ?_
  exact J_leaf (fun h => hL78 (s0 ||| s1, x6 + (1 : Int32)) h)

theorem j_X12_hear_148 {X : ZX} (N : Nat) (x0 : Nat) (x1 : Int32) (x3 : Int32) (x4 : Int32)   (g : ZS) {K : ((Int32 × Int32) ⊕ (Int32 × ZS)) → Prop} (h0 : ∀ v g, K (.inr (v, g)) → xK X (some (.int v)) g) (hL61 : ∀ s, K (.inl s) → zG Y_X12_hear X 0 0 61 [some (.ref x0), some (.int x1), none, some (.int s.1), some (.int s.2), none, none] [] g) : J Y_X12_hear X 0 0 148 [some (.ref x0), some (.int x1), none, some (.int x3), some (.int x4), none, none] [] g (f_X12_hear_148 N x0 x1 x3 x4 g) K := by
  unfold f_X12_hear_148
  refine J_iinc (1 : Int32) [some (.ref x0), some (.int x1), none, some (.int x3), some (.int (x4 + (1 : Int32))), none, none] (show Dc Y_X12_hear 148 (.iinc 4 1) 3 151 from ⟨by decide +kernel, rfl⟩) rfl rfl (by decide) rfl rfl ?_
  refine J_goto (tg := 61) (show Dc Y_X12_hear 151 (.goto (-90)) 3 154 from ⟨by decide +kernel, rfl⟩) (by decide) ?_
  exact J_leaf (fun h => hL61 (x3, x4 + (1 : Int32)) h)

theorem j_X12_hear_145 {X : ZX} (N : Nat) (x0 : Nat) (x1 : Int32) (x4 : Int32)   (g : ZS) {K : ((Int32 × Int32) ⊕ (Int32 × ZS)) → Prop} (h0 : ∀ v g, K (.inr (v, g)) → xK X (some (.int v)) g) (hL61 : ∀ s, K (.inl s) → zG Y_X12_hear X 0 0 61 [some (.ref x0), some (.int x1), none, some (.int s.1), some (.int s.2), none, none] [] g) : J Y_X12_hear X 0 0 145 [some (.ref x0), some (.int x1), none, none, some (.int x4), none, none] [] g (f_X12_hear_145 N x0 x1 x4 g) K := by
  unfold f_X12_hear_145
  refine J_iload rfl (show Dc Y_X12_hear 145 (.iload 4) 2 147 from ⟨by decide +kernel, rfl⟩) ?_
  refine J_istore_n [some (.ref x0), some (.int x1), none, some (.int x4), some (.int x4), none, none] (show Dc Y_X12_hear 147 (.istore_n 3) 1 148 from ⟨by decide +kernel, rfl⟩) rfl (by decide) rfl rfl ?_
  exact j_X12_hear_148 N x0 x1 x4 x4 g h0 hL61

theorem j_X12_hear_78 {X : ZX} (N : Nat) (x0 : Nat) (x1 : Int32) (x3 : Int32) (x4 : Int32) (x5 : Int32) (x6 : Int32)   (g : ZS) {K : ((Int32 × Int32) ⊕ ((Int32 × Int32) ⊕ (Int32 × ZS))) → Prop} (h0 : ∀ v g, K (.inr (.inr (v, g))) → xK X (some (.int v)) g) (hL61 : ∀ s, K (.inr (.inl s)) → zG Y_X12_hear X 0 0 61 [some (.ref x0), some (.int x1), none, some (.int s.1), some (.int s.2), none, none] [] g) (hL78 : ∀ s, K (.inl s) → zG Y_X12_hear X 0 0 78 [some (.ref x0), some (.int x1), none, some (.int x3), some (.int x4), some (.int s.1), some (.int s.2)] [] g) : J Y_X12_hear X 0 0 78 [some (.ref x0), some (.int x1), none, some (.int x3), some (.int x4), some (.int x5), some (.int x6)] [] g (f_X12_hear_78 N x0 x1 x3 x4 x5 x6 g) K := by
  unfold f_X12_hear_78
  refine J_iload rfl (show Dc Y_X12_hear 78 (.iload 6) 2 80 from ⟨by decide +kernel, rfl⟩) ?_
  refine J_aload_n rfl rfl (show Dc Y_X12_hear 80 (.aload_n 0) 1 81 from ⟨by decide +kernel, rfl⟩) ?_
  refine J_getI (show Dc Y_X12_hear 81 (.getfield 116) 3 84 from ⟨by decide +kernel, rfl⟩) w_f_RX12_116 rfl (fun v1 => ?_)
  refine J_icmp_ge (tg := 119) (show Dc Y_X12_hear 84 (.if_icmp .ge 35) 3 87 from ⟨by decide +kernel, rfl⟩) (by decide) (fun h => ?_) (fun h => ?_)
  · refine J_map (f := Sum.inr) (fun _ h => h) ?_
    refine J_iload_n rfl rfl (show Dc Y_X12_hear 119 (.iload_n 1) 1 120 from ⟨by decide +kernel, rfl⟩) ?_
    refine J_iload rfl (show Dc Y_X12_hear 120 (.iload 5) 2 122 from ⟨by decide +kernel, rfl⟩) ?_
    refine J_iconst (-1 : Int32) rfl (show Dc Y_X12_hear 122 (.iconst (-1)) 1 123 from ⟨by decide +kernel, rfl⟩) ?_
    refine J_ixor (show Dc Y_X12_hear 123 (.ixor) 1 124 from ⟨by decide +kernel, rfl⟩) ?_
    refine J_iand (show Dc Y_X12_hear 124 (.iand) 1 125 from ⟨by decide +kernel, rfl⟩) ?_
    refine J_if_ne (tg := 148) (show Dc Y_X12_hear 125 (.ifCond .ne 23) 3 128 from ⟨by decide +kernel, rfl⟩) (by decide) (fun h => ?_) (fun h => ?_)
    · refine J_mask [true, true, false, true, true, false, false] ?_
      exact j_X12_hear_148 (K := fun o => K (.inr o)) N x0 x1 x3 x4 g h0 hL61
    · refine J_iload_n rfl rfl (show Dc Y_X12_hear 128 (.iload_n 3) 1 129 from ⟨by decide +kernel, rfl⟩) ?_
      refine J_iconst (-1 : Int32) rfl (show Dc Y_X12_hear 129 (.iconst (-1)) 1 130 from ⟨by decide +kernel, rfl⟩) ?_
      refine J_icmp_eq (tg := 145) (show Dc Y_X12_hear 130 (.if_icmp .eq 15) 3 133 from ⟨by decide +kernel, rfl⟩) (by decide) (fun h => ?_) (fun h => ?_)
      · refine J_mask [true, true, false, false, true, false, false] ?_
        exact j_X12_hear_145 (K := fun o => K (.inr o)) N x0 x1 x4 g h0 hL61
      · refine J_iload rfl (show Dc Y_X12_hear 133 (.iload 4) 2 135 from ⟨by decide +kernel, rfl⟩) ?_
        refine J_callSi (fun r => r) (fun _ => g) (show Dc Y_X12_hear 135 (.invokestatic 269) 3 138 from ⟨by decide +kernel, rfl⟩) w_m_RX12_269 w_st_J6_bitCount_0f7a4 w_cw_J6_bitCount_0f7a4 (c_J6_bitCount_0f7a4 x4 g) rfl rfl (by decide) (Nat.le_of_ble_eq_true rfl) (by decide) (by decide) (fun v2 => ?_)
        refine J_iload_n rfl rfl (show Dc Y_X12_hear 138 (.iload_n 3) 1 139 from ⟨by decide +kernel, rfl⟩) ?_
        refine J_callSi (fun r => r) (fun _ => g) (show Dc Y_X12_hear 139 (.invokestatic 269) 3 142 from ⟨by decide +kernel, rfl⟩) w_m_RX12_269 w_st_J6_bitCount_0f7a4 w_cw_J6_bitCount_0f7a4 (c_J6_bitCount_0f7a4 x3 g) rfl rfl (by decide) (Nat.le_of_ble_eq_true rfl) (by decide) (by decide) (fun v3 => ?_)
        refine J_icmp_ge (tg := 148) (show Dc Y_X12_hear 142 (.if_icmp .ge 6) 3 145 from ⟨by decide +kernel, rfl⟩) (by decide) (fun h => ?_) (fun h => ?_)
        · refine J_mask [true, true, false, true, true, false, false] ?_
          exact j_X12_hear_148 (K := fun o => K (.inr o)) N x0 x1 x3 x4 g h0 hL61
        · refine J_mask [true, true, false, false, true, false, false] ?_
          exact j_X12_hear_145 (K := fun o => K (.inr o)) N x0 x1 x4 g h0 hL61
  · refine J_iload rfl (show Dc Y_X12_hear 87 (.iload 5) 2 89 from ⟨by decide +kernel, rfl⟩) ?_
    refine J_iload rfl (show Dc Y_X12_hear 89 (.iload 4) 2 91 from ⟨by decide +kernel, rfl⟩) ?_
    refine J_iload rfl (show Dc Y_X12_hear 91 (.iload 6) 2 93 from ⟨by decide +kernel, rfl⟩) ?_
    refine J_callSi (fun r => r) (fun _ => g) (show Dc Y_X12_hear 93 (.invokestatic 328) 3 96 from ⟨by decide +kernel, rfl⟩) w_m_RX12_328 w_st_X12_has w_cw_X12_has (c_X12_has x4 x6 g) rfl rfl (by decide) (Nat.le_of_ble_eq_true rfl) (by decide) (by decide) (fun v4 => ?_)
    refine J_if_eq (tg := 109) (show Dc Y_X12_hear 96 (.ifCond .eq 13) 3 99 from ⟨by decide +kernel, rfl⟩) (by decide) (fun h => ?_) (fun h => ?_)
    · refine J_iconst (0 : Int32) rfl (show Dc Y_X12_hear 109 (.iconst 0) 1 110 from ⟨by decide +kernel, rfl⟩) ?_
      refine J_mask [true, true, false, true, true, false, true] ?_
      exact j_X12_hear_110 N x0 x1 x3 x4 x6 x5 (0 : Int32) g h0 hL61 hL78
    · refine J_aload_n rfl rfl (show Dc Y_X12_hear 99 (.aload_n 0) 1 100 from ⟨by decide +kernel, rfl⟩) ?_
      refine J_getR (show Dc Y_X12_hear 100 (.getfield 66) 3 103 from ⟨by decide +kernel, rfl⟩) w_f_RX12_66 rfl (fun v5 => ?_)
      refine J_iload rfl (show Dc Y_X12_hear 103 (.iload 6) 2 105 from ⟨by decide +kernel, rfl⟩) ?_
      refine J_iald (show Dc Y_X12_hear 105 (.iaload) 1 106 from ⟨by decide +kernel, rfl⟩) (fun v6 => ?_)
      refine J_goto (tg := 110) (show Dc Y_X12_hear 106 (.goto 4) 3 109 from ⟨by decide +kernel, rfl⟩) (by decide) ?_
      refine J_mask [true, true, false, true, true, false, true] ?_
      exact j_X12_hear_110 N x0 x1 x3 x4 x6 x5 v6 g h0 hL61 hL78

theorem j_X12_hear_61 {X : ZX} (N : Nat) (x0 : Nat) (x1 : Int32) (x3 : Int32) (x4 : Int32)   (g : ZS) {K : ((Int32 × Int32) ⊕ (Int32 × ZS)) → Prop} (h0 : ∀ v g, K (.inr (v, g)) → xK X (some (.int v)) g) (hL61 : ∀ s, K (.inl s) → zG Y_X12_hear X 0 0 61 [some (.ref x0), some (.int x1), none, some (.int s.1), some (.int s.2), none, none] [] g) : J Y_X12_hear X 0 0 61 [some (.ref x0), some (.int x1), none, some (.int x3), some (.int x4), none, none] [] g (f_X12_hear_61 N x0 x1 x3 x4 g) K := by
  unfold f_X12_hear_61
  refine J_iload rfl (show Dc Y_X12_hear 61 (.iload 4) 2 63 from ⟨by decide +kernel, rfl⟩) ?_
  refine J_iconst (1 : Int32) rfl (show Dc Y_X12_hear 63 (.iconst 1) 1 64 from ⟨by decide +kernel, rfl⟩) ?_
  refine J_aload_n rfl rfl (show Dc Y_X12_hear 64 (.aload_n 0) 1 65 from ⟨by decide +kernel, rfl⟩) ?_
  refine J_getI (show Dc Y_X12_hear 65 (.getfield 116) 3 68 from ⟨by decide +kernel, rfl⟩) w_f_RX12_116 rfl (fun v1 => ?_)
  refine J_ishl (show Dc Y_X12_hear 68 (.ishl) 1 69 from ⟨by decide +kernel, rfl⟩) ?_
  refine J_icmp_ge (tg := 154) (show Dc Y_X12_hear 69 (.if_icmp .ge 85) 3 72 from ⟨by decide +kernel, rfl⟩) (by decide) (fun h => ?_) (fun h => ?_)
  · refine J_map (f := Sum.inr) (fun _ h => h) ?_
    refine J_iload_n rfl rfl (show Dc Y_X12_hear 154 (.iload_n 3) 1 155 from ⟨by decide +kernel, rfl⟩) ?_
    refine J_iconst (-1 : Int32) rfl (show Dc Y_X12_hear 155 (.iconst (-1)) 1 156 from ⟨by decide +kernel, rfl⟩) ?_
    refine J_icmp_ne (tg := 162) (show Dc Y_X12_hear 156 (.if_icmp .ne 6) 3 159 from ⟨by decide +kernel, rfl⟩) (by decide) (fun h => ?_) (fun h => ?_)
    · refine J_aload_n rfl rfl (show Dc Y_X12_hear 162 (.aload_n 0) 1 163 from ⟨by decide +kernel, rfl⟩) ?_
      refine J_iconst (0 : Int32) rfl (show Dc Y_X12_hear 163 (.iconst 0) 1 164 from ⟨by decide +kernel, rfl⟩) ?_
      refine J_putI (show Dc Y_X12_hear 164 (.putfield 113) 3 167 from ⟨by decide +kernel, rfl⟩) w_f_RX12_113 rfl rfl (fun g2 => ?_) (fun h => by cases h)
      refine J_aload_n rfl rfl (show Dc Y_X12_hear 167 (.aload_n 0) 1 168 from ⟨by decide +kernel, rfl⟩) ?_
      refine J_iload_n rfl rfl (show Dc Y_X12_hear 168 (.iload_n 3) 1 169 from ⟨by decide +kernel, rfl⟩) ?_
      refine J_i2l (show Dc Y_X12_hear 169 (.i2l) 1 170 from ⟨by decide +kernel, rfl⟩) ?_
      refine J_callVv (fun r => r) (show Dc Y_X12_hear 170 (.invokevirtual 274) 3 173 from ⟨by decide +kernel, rfl⟩) w_m_RX12_274 w_in_X12_tell rfl w_se_X12_tell w_cw_X12_tell (c_X12_tell x0 x3.toInt64 g2) rfl rfl (by decide) (Nat.le_of_ble_eq_true rfl) (by decide) (by decide) (fun g3 => ?_)
      refine J_iload_n rfl rfl (show Dc Y_X12_hear 173 (.iload_n 3) 1 174 from ⟨by decide +kernel, rfl⟩) ?_
      refine J_callSi (fun r => r) (fun _ => g3) (show Dc Y_X12_hear 174 (.invokestatic 269) 3 177 from ⟨by decide +kernel, rfl⟩) w_m_RX12_269 w_st_J6_bitCount_0f7a4 w_cw_J6_bitCount_0f7a4 (c_J6_bitCount_0f7a4 x3 g3) rfl rfl (by decide) (Nat.le_of_ble_eq_true rfl) (by decide) (by decide) (fun v4 => ?_)
      exact J_reti (show Dc Y_X12_hear 177 (.ireturn) 1 178 from ⟨by decide +kernel, rfl⟩) rfl (h0 _ _) (by decide) (by decide)
    · refine J_bipush (-2 : Int32) rfl (show Dc Y_X12_hear 159 (.bipush (-2)) 2 161 from ⟨by decide +kernel, rfl⟩) ?_
      exact J_reti (show Dc Y_X12_hear 161 (.ireturn) 1 162 from ⟨by decide +kernel, rfl⟩) rfl (h0 _ _) (by decide) (by decide)
  · refine J_iconst (0 : Int32) rfl (show Dc Y_X12_hear 72 (.iconst 0) 1 73 from ⟨by decide +kernel, rfl⟩) ?_
    refine J_istore [some (.ref x0), some (.int x1), none, some (.int x3), some (.int x4), some (.int (0 : Int32)), none] (show Dc Y_X12_hear 73 (.istore 5) 2 75 from ⟨by decide +kernel, rfl⟩) (by decide) rfl rfl ?_
    refine J_iconst (0 : Int32) rfl (show Dc Y_X12_hear 75 (.iconst 0) 1 76 from ⟨by decide +kernel, rfl⟩) ?_
    refine J_istore [some (.ref x0), some (.int x1), none, some (.int x3), some (.int x4), some (.int (0 : Int32)), some (.int (0 : Int32))] (show Dc Y_X12_hear 76 (.istore 6) 2 78 from ⟨by decide +kernel, rfl⟩) (by decide) rfl rfl ?_
    exact J_loop (X := X) (K := K) (uc := fun _ => 0) (us := fun _ => 0) (lf := fun s => [some (.ref x0), some (.int x1), none, some (.int x3), some (.int x4), some (.int s.1), some (.int s.2)]) (gf := fun s => g) (fun s => j_X12_hear_78 (K := zKl Y_X12_hear X 78 (fun _ => 0) (fun _ => 0) (fun s => [some (.ref x0), some (.int x1), none, some (.int x3), some (.int x4), some (.int s.1), some (.int s.2)]) (fun s => g) K) N x0 x1 x3 x4 s.1 s.2 g h0 hL61 (fun s h => h)) N ((0 : Int32), (0 : Int32))

theorem j_X12_hear_30 {X : ZX} (N : Nat) (x0 : Nat) (x1 : Int32) (x2 : Int32) (x3 : Int32)   (g : ZS) {K : ((Int32 × ZS) ⊕ (Int32 × ZS)) → Prop} (h0 : ∀ v g, K (.inr (v, g)) → xK X (some (.int v)) g) (hL30 : ∀ s, K (.inl s) → zG Y_X12_hear X 0 0 30 [some (.ref x0), some (.int x1), some (.int x2), some (.int s.1), none, none, none] [] s.2) : J Y_X12_hear X 0 0 30 [some (.ref x0), some (.int x1), some (.int x2), some (.int x3), none, none, none] [] g (f_X12_hear_30 N x0 x1 x2 x3 g) K := by
  unfold f_X12_hear_30
  refine J_iload_n rfl rfl (show Dc Y_X12_hear 30 (.iload_n 3) 1 31 from ⟨by decide +kernel, rfl⟩) ?_
  refine J_aload_n rfl rfl (show Dc Y_X12_hear 31 (.aload_n 0) 1 32 from ⟨by decide +kernel, rfl⟩) ?_
  refine J_getI (show Dc Y_X12_hear 32 (.getfield 116) 3 35 from ⟨by decide +kernel, rfl⟩) w_f_RX12_116 rfl (fun v1 => ?_)
  refine J_icmp_ge (tg := 56) (show Dc Y_X12_hear 35 (.if_icmp .ge 21) 3 38 from ⟨by decide +kernel, rfl⟩) (by decide) (fun h => ?_) (fun h => ?_)
  · refine J_map (f := Sum.inr) (fun _ h => h) ?_
    refine J_iconst (-1 : Int32) rfl (show Dc Y_X12_hear 56 (.iconst (-1)) 1 57 from ⟨by decide +kernel, rfl⟩) ?_
    refine J_istore_n [some (.ref x0), some (.int x1), some (.int x2), some (.int (-1 : Int32)), none, none, none] (show Dc Y_X12_hear 57 (.istore_n 3) 1 58 from ⟨by decide +kernel, rfl⟩) rfl (by decide) rfl rfl ?_
    refine J_iconst (0 : Int32) rfl (show Dc Y_X12_hear 58 (.iconst 0) 1 59 from ⟨by decide +kernel, rfl⟩) ?_
    refine J_istore [some (.ref x0), some (.int x1), some (.int x2), some (.int (-1 : Int32)), some (.int (0 : Int32)), none, none] (show Dc Y_X12_hear 59 (.istore 4) 2 61 from ⟨by decide +kernel, rfl⟩) (by decide) rfl rfl ?_
    refine J_mask [true, true, false, true, true, false, false] ?_
    exact J_loop (X := X) (K := (fun o => K (.inr o))) (uc := fun _ => 0) (us := fun _ => 0) (lf := fun s => [some (.ref x0), some (.int x1), none, some (.int s.1), some (.int s.2), none, none]) (gf := fun s => g) (fun s => j_X12_hear_61 (K := zKl Y_X12_hear X 61 (fun _ => 0) (fun _ => 0) (fun s => [some (.ref x0), some (.int x1), none, some (.int s.1), some (.int s.2), none, none]) (fun s => g) (fun o => K (.inr o))) N x0 x1 s.1 s.2 g h0 (fun s h => h)) N ((-1 : Int32), (0 : Int32))
  · refine J_aload_n rfl rfl (show Dc Y_X12_hear 38 (.aload_n 0) 1 39 from ⟨by decide +kernel, rfl⟩) ?_
    refine J_getR (show Dc Y_X12_hear 39 (.getfield 66) 3 42 from ⟨by decide +kernel, rfl⟩) w_f_RX12_66 rfl (fun v2 => ?_)
    refine J_iload_n rfl rfl (show Dc Y_X12_hear 42 (.iload_n 3) 1 43 from ⟨by decide +kernel, rfl⟩) ?_
    refine J_aload_n rfl rfl (show Dc Y_X12_hear 43 (.aload_n 0) 1 44 from ⟨by decide +kernel, rfl⟩) ?_
    refine J_iload_n rfl rfl (show Dc Y_X12_hear 44 (.iload_n 3) 1 45 from ⟨by decide +kernel, rfl⟩) ?_
    refine J_iload_n rfl rfl (show Dc Y_X12_hear 45 (.iload_n 2) 1 46 from ⟨by decide +kernel, rfl⟩) ?_
    refine J_callVi (fun r => r.1) (fun r => r.2) (show Dc Y_X12_hear 46 (.invokevirtual 320) 3 49 from ⟨by decide +kernel, rfl⟩) w_m_RX12_320 w_in_X12_saidBits rfl w_se_X12_saidBits w_cw_X12_saidBits (c_X12_saidBits N x0 x3 x2 g) rfl rfl (by decide) (Nat.le_of_ble_eq_true rfl) (by decide) (by decide) (fun r3 => ?_)
    refine J_iast (show Dc Y_X12_hear 49 (.iastore) 1 50 from ⟨by decide +kernel, rfl⟩) (fun g4 => ?_)
    refine J_iinc (1 : Int32) [some (.ref x0), some (.int x1), some (.int x2), some (.int (x3 + (1 : Int32))), none, none, none] (show Dc Y_X12_hear 50 (.iinc 3 1) 3 53 from ⟨by decide +kernel, rfl⟩) rfl rfl (by decide) rfl rfl ?_
    refine J_goto (tg := 30) (show Dc Y_X12_hear 53 (.goto (-23)) 3 56 from ⟨by decide +kernel, rfl⟩) (by decide) ?_
    exact J_leaf (fun h => hL30 (x3 + (1 : Int32), g4) h)

theorem j_X12_hear {X : ZX} (N : Nat) (x0 : Nat) (x1 : Int32) (x2 : Int32)   (g : ZS) {K : (Int32 × ZS) → Prop} (h0 : ∀ v g, K (v, g) → xK X (some (.int v)) g) : J Y_X12_hear X 0 0 0 [some (.ref x0), some (.int x1), some (.int x2), none, none, none, none] [] g (f_X12_hear N x0 x1 x2 g) K := by
  unfold f_X12_hear
  refine J_aload_n rfl rfl (show Dc Y_X12_hear 0 (.aload_n 0) 1 1 from ⟨by decide +kernel, rfl⟩) ?_
  refine J_iconst (0 : Int32) rfl (show Dc Y_X12_hear 1 (.iconst 0) 1 2 from ⟨by decide +kernel, rfl⟩) ?_
  refine J_putI (show Dc Y_X12_hear 2 (.putfield 109) 3 5 from ⟨by decide +kernel, rfl⟩) w_f_RX12_109 rfl rfl (fun g1 => ?_) (fun h => by cases h)
  refine J_iload_n rfl rfl (show Dc Y_X12_hear 5 (.iload_n 1) 1 6 from ⟨by decide +kernel, rfl⟩) ?_
  refine J_iconst (0 : Int32) rfl (show Dc Y_X12_hear 6 (.iconst 0) 1 7 from ⟨by decide +kernel, rfl⟩) ?_
  refine J_sipush (255 : Int32) rfl (show Dc Y_X12_hear 7 (.sipush 255) 3 10 from ⟨by decide +kernel, rfl⟩) ?_
  refine J_callSi (fun r => r) (fun _ => g1) (show Dc Y_X12_hear 10 (.invokestatic 119) 3 13 from ⟨by decide +kernel, rfl⟩) w_m_RX12_119 w_st_X12_in w_cw_X12_in (c_X12_in x1 (0 : Int32) (255 : Int32) g1) rfl rfl (by decide) (Nat.le_of_ble_eq_true rfl) (by decide) (by decide) (fun v2 => ?_)
  refine J_if_eq (tg := 26) (show Dc Y_X12_hear 13 (.ifCond .eq 13) 3 16 from ⟨by decide +kernel, rfl⟩) (by decide) (fun h => ?_) (fun h => ?_)
  · refine J_mask [false, false, false, false, false, false, false] ?_
    exact j_X12_hear_26 N g1 h0
  · refine J_iload_n rfl rfl (show Dc Y_X12_hear 16 (.iload_n 2) 1 17 from ⟨by decide +kernel, rfl⟩) ?_
    refine J_iconst (1 : Int32) rfl (show Dc Y_X12_hear 17 (.iconst 1) 1 18 from ⟨by decide +kernel, rfl⟩) ?_
    refine J_bipush (8 : Int32) rfl (show Dc Y_X12_hear 18 (.bipush 8) 2 20 from ⟨by decide +kernel, rfl⟩) ?_
    refine J_callSi (fun r => r) (fun _ => g1) (show Dc Y_X12_hear 20 (.invokestatic 119) 3 23 from ⟨by decide +kernel, rfl⟩) w_m_RX12_119 w_st_X12_in w_cw_X12_in (c_X12_in x2 (1 : Int32) (8 : Int32) g1) rfl rfl (by decide) (Nat.le_of_ble_eq_true rfl) (by decide) (by decide) (fun v3 => ?_)
    refine J_if_ne (tg := 28) (show Dc Y_X12_hear 23 (.ifCond .ne 5) 3 26 from ⟨by decide +kernel, rfl⟩) (by decide) (fun h => ?_) (fun h => ?_)
    · refine J_iconst (0 : Int32) rfl (show Dc Y_X12_hear 28 (.iconst 0) 1 29 from ⟨by decide +kernel, rfl⟩) ?_
      refine J_istore_n [some (.ref x0), some (.int x1), some (.int x2), some (.int (0 : Int32)), none, none, none] (show Dc Y_X12_hear 29 (.istore_n 3) 1 30 from ⟨by decide +kernel, rfl⟩) rfl (by decide) rfl rfl ?_
      exact J_loop (X := X) (K := K) (uc := fun _ => 0) (us := fun _ => 0) (lf := fun s => [some (.ref x0), some (.int x1), some (.int x2), some (.int s.1), none, none, none]) (gf := fun s => s.2) (fun s => j_X12_hear_30 (K := zKl Y_X12_hear X 30 (fun _ => 0) (fun _ => 0) (fun s => [some (.ref x0), some (.int x1), some (.int x2), some (.int s.1), none, none, none]) (fun s => s.2) K) N x0 x1 x2 s.1 s.2 h0 (fun s h => h)) N ((0 : Int32), g1)
    · refine J_mask [false, false, false, false, false, false, false] ?_
      exact j_X12_hear_26 N g1 h0

theorem c_X12_hear {l : Launch} {D : ZD} {B0 : Nat} (N : Nat) (x0 : Nat) (x1 : Int32) (x2 : Int32) (g : ZS) : ∀ r, f_X12_hear N x0 x1 x2 g = some r → zCt l D B0 yX12_hear Y_X12_hear [.ref x0, .int x1, .int x2] g (some (.int r.1)) r.2 :=
  zCt_ofF (vo := fun r => some (.int r.1)) (so := fun r => r.2) (by decide +kernel) rfl (fun h => by cases h) rfl (Nat.le_of_ble_eq_true rfl) (fun X => j_X12_hear N x0 x1 x2 g (fun _ _ h => h))

theorem j_X12_worthOf_42 {X : ZX} (N : Nat) (x0 : Nat) (x3 : Int32) (x5 : Int32) (s0 : Int32) (s1 : Int32)  (g : ZS) {K : ((Int32 × Int32) ⊕ (Int32 × ZS)) → Prop} (h0 : ∀ v g, K (.inr (v, g)) → xK X (some (.int v)) g) (hL13 : ∀ s, K (.inl s) → zG Y_X12_worthOf X 0 0 13 [some (.ref x0), none, none, some (.int x3), some (.int s.1), some (.int s.2)] [] g) : J Y_X12_worthOf X 0 0 42 [some (.ref x0), none, none, some (.int x3), none, some (.int x5)] [.int s1, .int s0] g (f_X12_worthOf_42 N x0 x3 x5 s0 s1 g) K := by
  unfold f_X12_worthOf_42
  refine J_iadd (show Dc Y_X12_worthOf 42 (.iadd) 1 43 from ⟨by decide +kernel, rfl⟩) ?_
  refine J_istore [some (.ref x0), none, none, some (.int x3), some (.int (s0 + s1)), some (.int x5)] (show Dc Y_X12_worthOf 43 (.istore 4) 2 45 from ⟨by decide +kernel, rfl⟩) (by decide) rfl rfl ?_
  refine J_iinc (1 : Int32) [some (.ref x0), none, none, some (.int x3), some (.int (s0 + s1)), some (.int (x5 + (1 : Int32)))] (show Dc Y_X12_worthOf 45 (.iinc 5 1) 3 48 from ⟨by decide +kernel, rfl⟩) rfl rfl (by decide) rfl rfl ?_
  refine J_goto (tg := 13) (show Dc Y_X12_worthOf 48 (.goto (-35)) 3 51 from ⟨by decide +kernel, rfl⟩) (by decide) ?_
  exact J_leaf (fun h => hL13 (s0 + s1, x5 + (1 : Int32)) h)

theorem j_X12_worthOf_13 {X : ZX} (N : Nat) (x0 : Nat) (x3 : Int32) (x4 : Int32) (x5 : Int32)   (g : ZS) {K : ((Int32 × Int32) ⊕ (Int32 × ZS)) → Prop} (h0 : ∀ v g, K (.inr (v, g)) → xK X (some (.int v)) g) (hL13 : ∀ s, K (.inl s) → zG Y_X12_worthOf X 0 0 13 [some (.ref x0), none, none, some (.int x3), some (.int s.1), some (.int s.2)] [] g) : J Y_X12_worthOf X 0 0 13 [some (.ref x0), none, none, some (.int x3), some (.int x4), some (.int x5)] [] g (f_X12_worthOf_13 N x0 x3 x4 x5 g) K := by
  unfold f_X12_worthOf_13
  refine J_iload rfl (show Dc Y_X12_worthOf 13 (.iload 5) 2 15 from ⟨by decide +kernel, rfl⟩) ?_
  refine J_bipush (8 : Int32) rfl (show Dc Y_X12_worthOf 15 (.bipush 8) 2 17 from ⟨by decide +kernel, rfl⟩) ?_
  refine J_icmp_ge (tg := 51) (show Dc Y_X12_worthOf 17 (.if_icmp .ge 34) 3 20 from ⟨by decide +kernel, rfl⟩) (by decide) (fun h => ?_) (fun h => ?_)
  · refine J_map (f := Sum.inr) (fun _ h => h) ?_
    refine J_iload rfl (show Dc Y_X12_worthOf 51 (.iload 4) 2 53 from ⟨by decide +kernel, rfl⟩) ?_
    exact J_reti (show Dc Y_X12_worthOf 53 (.ireturn) 1 54 from ⟨by decide +kernel, rfl⟩) rfl (h0 _ _) (by decide) (by decide)
  · refine J_iload rfl (show Dc Y_X12_worthOf 20 (.iload 4) 2 22 from ⟨by decide +kernel, rfl⟩) ?_
    refine J_iload_n rfl rfl (show Dc Y_X12_worthOf 22 (.iload_n 3) 1 23 from ⟨by decide +kernel, rfl⟩) ?_
    refine J_iload rfl (show Dc Y_X12_worthOf 23 (.iload 5) 2 25 from ⟨by decide +kernel, rfl⟩) ?_
    refine J_callSi (fun r => r) (fun _ => g) (show Dc Y_X12_worthOf 25 (.invokestatic 328) 3 28 from ⟨by decide +kernel, rfl⟩) w_m_RX12_328 w_st_X12_has w_cw_X12_has (c_X12_has x3 x5 g) rfl rfl (by decide) (Nat.le_of_ble_eq_true rfl) (by decide) (by decide) (fun v1 => ?_)
    refine J_if_eq (tg := 41) (show Dc Y_X12_worthOf 28 (.ifCond .eq 13) 3 31 from ⟨by decide +kernel, rfl⟩) (by decide) (fun h => ?_) (fun h => ?_)
    · refine J_iconst (0 : Int32) rfl (show Dc Y_X12_worthOf 41 (.iconst 0) 1 42 from ⟨by decide +kernel, rfl⟩) ?_
      refine J_mask [true, false, false, true, false, true] ?_
      exact j_X12_worthOf_42 N x0 x3 x5 x4 (0 : Int32) g h0 hL13
    · refine J_aload_n rfl rfl (show Dc Y_X12_worthOf 31 (.aload_n 0) 1 32 from ⟨by decide +kernel, rfl⟩) ?_
      refine J_getR (show Dc Y_X12_worthOf 32 (.getfield 16) 3 35 from ⟨by decide +kernel, rfl⟩) w_f_RX12_16 rfl (fun v2 => ?_)
      refine J_iload rfl (show Dc Y_X12_worthOf 35 (.iload 5) 2 37 from ⟨by decide +kernel, rfl⟩) ?_
      refine J_iald (show Dc Y_X12_worthOf 37 (.iaload) 1 38 from ⟨by decide +kernel, rfl⟩) (fun v3 => ?_)
      refine J_goto (tg := 42) (show Dc Y_X12_worthOf 38 (.goto 4) 3 41 from ⟨by decide +kernel, rfl⟩) (by decide) ?_
      refine J_mask [true, false, false, true, false, true] ?_
      exact j_X12_worthOf_42 N x0 x3 x5 x4 v3 g h0 hL13

theorem j_X12_worthOf {X : ZX} (N : Nat) (x0 : Nat) (x1 : Int32) (x2 : Int32)   (g : ZS) {K : (Int32 × ZS) → Prop} (h0 : ∀ v g, K (v, g) → xK X (some (.int v)) g) : J Y_X12_worthOf X 0 0 0 [some (.ref x0), some (.int x1), some (.int x2), none, none, none] [] g (f_X12_worthOf N x0 x1 x2 g) K := by
  unfold f_X12_worthOf
  refine J_aload_n rfl rfl (show Dc Y_X12_worthOf 0 (.aload_n 0) 1 1 from ⟨by decide +kernel, rfl⟩) ?_
  refine J_iload_n rfl rfl (show Dc Y_X12_worthOf 1 (.iload_n 1) 1 2 from ⟨by decide +kernel, rfl⟩) ?_
  refine J_iload_n rfl rfl (show Dc Y_X12_worthOf 2 (.iload_n 2) 1 3 from ⟨by decide +kernel, rfl⟩) ?_
  refine J_callVi (fun r => r.1) (fun r => r.2) (show Dc Y_X12_worthOf 3 (.invokevirtual 320) 3 6 from ⟨by decide +kernel, rfl⟩) w_m_RX12_320 w_in_X12_saidBits rfl w_se_X12_saidBits w_cw_X12_saidBits (c_X12_saidBits N x0 x1 x2 g) rfl rfl (by decide) (Nat.le_of_ble_eq_true rfl) (by decide) (by decide) (fun r1 => ?_)
  refine J_istore_n [some (.ref x0), some (.int x1), some (.int x2), some (.int r1.1), none, none] (show Dc Y_X12_worthOf 6 (.istore_n 3) 1 7 from ⟨by decide +kernel, rfl⟩) rfl (by decide) rfl rfl ?_
  refine J_iconst (0 : Int32) rfl (show Dc Y_X12_worthOf 7 (.iconst 0) 1 8 from ⟨by decide +kernel, rfl⟩) ?_
  refine J_istore [some (.ref x0), some (.int x1), some (.int x2), some (.int r1.1), some (.int (0 : Int32)), none] (show Dc Y_X12_worthOf 8 (.istore 4) 2 10 from ⟨by decide +kernel, rfl⟩) (by decide) rfl rfl ?_
  refine J_iconst (0 : Int32) rfl (show Dc Y_X12_worthOf 10 (.iconst 0) 1 11 from ⟨by decide +kernel, rfl⟩) ?_
  refine J_istore [some (.ref x0), some (.int x1), some (.int x2), some (.int r1.1), some (.int (0 : Int32)), some (.int (0 : Int32))] (show Dc Y_X12_worthOf 11 (.istore 5) 2 13 from ⟨by decide +kernel, rfl⟩) (by decide) rfl rfl ?_
  refine J_mask [true, false, false, true, true, true] ?_
  exact J_loop (X := X) (K := K) (uc := fun _ => 0) (us := fun _ => 0) (lf := fun s => [some (.ref x0), none, none, some (.int r1.1), some (.int s.1), some (.int s.2)]) (gf := fun s => r1.2) (fun s => j_X12_worthOf_13 (K := zKl Y_X12_worthOf X 13 (fun _ => 0) (fun _ => 0) (fun s => [some (.ref x0), none, none, some (.int r1.1), some (.int s.1), some (.int s.2)]) (fun s => r1.2) K) N x0 r1.1 s.1 s.2 r1.2 h0 (fun s h => h)) N ((0 : Int32), (0 : Int32))

theorem c_X12_worthOf {l : Launch} {D : ZD} {B0 : Nat} (N : Nat) (x0 : Nat) (x1 : Int32) (x2 : Int32) (g : ZS) : ∀ r, f_X12_worthOf N x0 x1 x2 g = some r → zCt l D B0 yX12_worthOf Y_X12_worthOf [.ref x0, .int x1, .int x2] g (some (.int r.1)) r.2 :=
  zCt_ofF (vo := fun r => some (.int r.1)) (so := fun r => r.2) (by decide +kernel) rfl (fun h => by cases h) rfl (Nat.le_of_ble_eq_true rfl) (fun X => j_X12_worthOf N x0 x1 x2 g (fun _ _ h => h))

theorem j_X12_gain_23 {X : ZX} (N : Nat)    (g : ZS) {K : (Int32 × ZS) → Prop} (h0 : ∀ v g, K (v, g) → xK X (some (.int v)) g) : J Y_X12_gain X 0 0 23 [none, none, none, none, none] [] g (f_X12_gain_23 N g) K := by
  unfold f_X12_gain_23
  refine J_iconst (-1 : Int32) rfl (show Dc Y_X12_gain 23 (.iconst (-1)) 1 24 from ⟨by decide +kernel, rfl⟩) ?_
  exact J_reti (show Dc Y_X12_gain 24 (.ireturn) 1 25 from ⟨by decide +kernel, rfl⟩) rfl (h0 _ _) (by decide) (by decide)

theorem j_X12_gain_58 {X : ZX} (N : Nat) (x0 : Nat) (x1 : Int32) (x2 : Int32) (x3 : Int32) (x4 : Int32)   (g : ZS) {K : ((Int32 × Int32 × ZS) ⊕ (Int32 × ZS)) → Prop} (h0 : ∀ v g, K (.inr (v, g)) → xK X (some (.int v)) g) (hL30 : ∀ s, K (.inl s) → zG Y_X12_gain X 0 0 30 [some (.ref x0), some (.int x1), some (.int x2), some (.int s.1), some (.int s.2.1)] [] s.2.2) : J Y_X12_gain X 0 0 58 [some (.ref x0), some (.int x1), some (.int x2), some (.int x3), some (.int x4)] [] g (f_X12_gain_58 N x0 x1 x2 x3 x4 g) K := by
  unfold f_X12_gain_58
  refine J_iinc (1 : Int32) [some (.ref x0), some (.int x1), some (.int x2), some (.int x3), some (.int (x4 + (1 : Int32)))] (show Dc Y_X12_gain 58 (.iinc 4 1) 3 61 from ⟨by decide +kernel, rfl⟩) rfl rfl (by decide) rfl rfl ?_
  refine J_goto (tg := 30) (show Dc Y_X12_gain 61 (.goto (-31)) 3 64 from ⟨by decide +kernel, rfl⟩) (by decide) ?_
  exact J_leaf (fun h => hL30 (x3, x4 + (1 : Int32), g) h)

theorem j_X12_gain_30 {X : ZX} (N : Nat) (x0 : Nat) (x1 : Int32) (x2 : Int32) (x3 : Int32) (x4 : Int32)   (g : ZS) {K : ((Int32 × Int32 × ZS) ⊕ (Int32 × ZS)) → Prop} (h0 : ∀ v g, K (.inr (v, g)) → xK X (some (.int v)) g) (hL30 : ∀ s, K (.inl s) → zG Y_X12_gain X 0 0 30 [some (.ref x0), some (.int x1), some (.int x2), some (.int s.1), some (.int s.2.1)] [] s.2.2) : J Y_X12_gain X 0 0 30 [some (.ref x0), some (.int x1), some (.int x2), some (.int x3), some (.int x4)] [] g (f_X12_gain_30 N x0 x1 x2 x3 x4 g) K := by
  unfold f_X12_gain_30
  refine J_iload rfl (show Dc Y_X12_gain 30 (.iload 4) 2 32 from ⟨by decide +kernel, rfl⟩) ?_
  refine J_aload_n rfl rfl (show Dc Y_X12_gain 32 (.aload_n 0) 1 33 from ⟨by decide +kernel, rfl⟩) ?_
  refine J_getI (show Dc Y_X12_gain 33 (.getfield 116) 3 36 from ⟨by decide +kernel, rfl⟩) w_f_RX12_116 rfl (fun v1 => ?_)
  refine J_icmp_ge (tg := 64) (show Dc Y_X12_gain 36 (.if_icmp .ge 28) 3 39 from ⟨by decide +kernel, rfl⟩) (by decide) (fun h => ?_) (fun h => ?_)
  · refine J_map (f := Sum.inr) (fun _ h => h) ?_
    refine J_aload_n rfl rfl (show Dc Y_X12_gain 64 (.aload_n 0) 1 65 from ⟨by decide +kernel, rfl⟩) ?_
    refine J_iconst (0 : Int32) rfl (show Dc Y_X12_gain 65 (.iconst 0) 1 66 from ⟨by decide +kernel, rfl⟩) ?_
    refine J_putI (show Dc Y_X12_gain 66 (.putfield 113) 3 69 from ⟨by decide +kernel, rfl⟩) w_f_RX12_113 rfl rfl (fun g2 => ?_) (fun h => by cases h)
    refine J_aload_n rfl rfl (show Dc Y_X12_gain 69 (.aload_n 0) 1 70 from ⟨by decide +kernel, rfl⟩) ?_
    refine J_iload_n rfl rfl (show Dc Y_X12_gain 70 (.iload_n 3) 1 71 from ⟨by decide +kernel, rfl⟩) ?_
    refine J_i2l (show Dc Y_X12_gain 71 (.i2l) 1 72 from ⟨by decide +kernel, rfl⟩) ?_
    refine J_callVv (fun r => r) (show Dc Y_X12_gain 72 (.invokevirtual 274) 3 75 from ⟨by decide +kernel, rfl⟩) w_m_RX12_274 w_in_X12_tell rfl w_se_X12_tell w_cw_X12_tell (c_X12_tell x0 x3.toInt64 g2) rfl rfl (by decide) (Nat.le_of_ble_eq_true rfl) (by decide) (by decide) (fun g3 => ?_)
    refine J_aload_n rfl rfl (show Dc Y_X12_gain 75 (.aload_n 0) 1 76 from ⟨by decide +kernel, rfl⟩) ?_
    refine J_aload_n rfl rfl (show Dc Y_X12_gain 76 (.aload_n 0) 1 77 from ⟨by decide +kernel, rfl⟩) ?_
    refine J_iload_n rfl rfl (show Dc Y_X12_gain 77 (.iload_n 3) 1 78 from ⟨by decide +kernel, rfl⟩) ?_
    refine J_iload_n rfl rfl (show Dc Y_X12_gain 78 (.iload_n 2) 1 79 from ⟨by decide +kernel, rfl⟩) ?_
    refine J_callVi (fun r => r.1) (fun r => r.2) (show Dc Y_X12_gain 79 (.invokevirtual 332) 3 82 from ⟨by decide +kernel, rfl⟩) w_m_RX12_332 w_in_X12_worthOf rfl w_se_X12_worthOf w_cw_X12_worthOf (c_X12_worthOf N x0 x3 x2 g3) rfl rfl (by decide) (Nat.le_of_ble_eq_true rfl) (by decide) (by decide) (fun r4 => ?_)
    refine J_i2l (show Dc Y_X12_gain 82 (.i2l) 1 83 from ⟨by decide +kernel, rfl⟩) ?_
    refine J_callVv (fun r => r) (show Dc Y_X12_gain 83 (.invokevirtual 274) 3 86 from ⟨by decide +kernel, rfl⟩) w_m_RX12_274 w_in_X12_tell rfl w_se_X12_tell w_cw_X12_tell (c_X12_tell x0 r4.1.toInt64 r4.2) rfl rfl (by decide) (Nat.le_of_ble_eq_true rfl) (by decide) (by decide) (fun g5 => ?_)
    refine J_aload_n rfl rfl (show Dc Y_X12_gain 86 (.aload_n 0) 1 87 from ⟨by decide +kernel, rfl⟩) ?_
    refine J_iload_n rfl rfl (show Dc Y_X12_gain 87 (.iload_n 1) 1 88 from ⟨by decide +kernel, rfl⟩) ?_
    refine J_iload_n rfl rfl (show Dc Y_X12_gain 88 (.iload_n 2) 1 89 from ⟨by decide +kernel, rfl⟩) ?_
    refine J_callVi (fun r => r.1) (fun r => r.2) (show Dc Y_X12_gain 89 (.invokevirtual 332) 3 92 from ⟨by decide +kernel, rfl⟩) w_m_RX12_332 w_in_X12_worthOf rfl w_se_X12_worthOf w_cw_X12_worthOf (c_X12_worthOf N x0 x1 x2 g5) rfl rfl (by decide) (Nat.le_of_ble_eq_true rfl) (by decide) (by decide) (fun r6 => ?_)
    exact J_reti (show Dc Y_X12_gain 92 (.ireturn) 1 93 from ⟨by decide +kernel, rfl⟩) rfl (h0 _ _) (by decide) (by decide)
  · refine J_aload_n rfl rfl (show Dc Y_X12_gain 39 (.aload_n 0) 1 40 from ⟨by decide +kernel, rfl⟩) ?_
    refine J_iload rfl (show Dc Y_X12_gain 40 (.iload 4) 2 42 from ⟨by decide +kernel, rfl⟩) ?_
    refine J_iload_n rfl rfl (show Dc Y_X12_gain 42 (.iload_n 2) 1 43 from ⟨by decide +kernel, rfl⟩) ?_
    refine J_callVi (fun r => r.1) (fun r => r.2) (show Dc Y_X12_gain 43 (.invokevirtual 332) 3 46 from ⟨by decide +kernel, rfl⟩) w_m_RX12_332 w_in_X12_worthOf rfl w_se_X12_worthOf w_cw_X12_worthOf (c_X12_worthOf N x0 x4 x2 g) rfl rfl (by decide) (Nat.le_of_ble_eq_true rfl) (by decide) (by decide) (fun r7 => ?_)
    refine J_aload_n rfl rfl (show Dc Y_X12_gain 46 (.aload_n 0) 1 47 from ⟨by decide +kernel, rfl⟩) ?_
    refine J_iload_n rfl rfl (show Dc Y_X12_gain 47 (.iload_n 3) 1 48 from ⟨by decide +kernel, rfl⟩) ?_
    refine J_iload_n rfl rfl (show Dc Y_X12_gain 48 (.iload_n 2) 1 49 from ⟨by decide +kernel, rfl⟩) ?_
    refine J_callVi (fun r => r.1) (fun r => r.2) (show Dc Y_X12_gain 49 (.invokevirtual 332) 3 52 from ⟨by decide +kernel, rfl⟩) w_m_RX12_332 w_in_X12_worthOf rfl w_se_X12_worthOf w_cw_X12_worthOf (c_X12_worthOf N x0 x3 x2 r7.2) rfl rfl (by decide) (Nat.le_of_ble_eq_true rfl) (by decide) (by decide) (fun r8 => ?_)
    refine J_icmp_le (tg := 58) (show Dc Y_X12_gain 52 (.if_icmp .le 6) 3 55 from ⟨by decide +kernel, rfl⟩) (by decide) (fun h => ?_) (fun h => ?_)
    · exact j_X12_gain_58 N x0 x1 x2 x3 x4 r8.2 h0 hL30
    · refine J_iload rfl (show Dc Y_X12_gain 55 (.iload 4) 2 57 from ⟨by decide +kernel, rfl⟩) ?_
      refine J_istore_n [some (.ref x0), some (.int x1), some (.int x2), some (.int x4), some (.int x4)] (show Dc Y_X12_gain 57 (.istore_n 3) 1 58 from ⟨by decide +kernel, rfl⟩) rfl (by decide) rfl rfl ?_
      exact j_X12_gain_58 N x0 x1 x2 x4 x4 r8.2 h0 hL30

theorem j_X12_gain {X : ZX} (N : Nat) (x0 : Nat) (x1 : Int32) (x2 : Int32)   (g : ZS) {K : (Int32 × ZS) → Prop} (h0 : ∀ v g, K (v, g) → xK X (some (.int v)) g) : J Y_X12_gain X 0 0 0 [some (.ref x0), some (.int x1), some (.int x2), none, none] [] g (f_X12_gain N x0 x1 x2 g) K := by
  unfold f_X12_gain
  refine J_aload_n rfl rfl (show Dc Y_X12_gain 0 (.aload_n 0) 1 1 from ⟨by decide +kernel, rfl⟩) ?_
  refine J_iconst (0 : Int32) rfl (show Dc Y_X12_gain 1 (.iconst 0) 1 2 from ⟨by decide +kernel, rfl⟩) ?_
  refine J_putI (show Dc Y_X12_gain 2 (.putfield 109) 3 5 from ⟨by decide +kernel, rfl⟩) w_f_RX12_109 rfl rfl (fun g1 => ?_) (fun h => by cases h)
  refine J_aload_n rfl rfl (show Dc Y_X12_gain 5 (.aload_n 0) 1 6 from ⟨by decide +kernel, rfl⟩) ?_
  refine J_iload_n rfl rfl (show Dc Y_X12_gain 6 (.iload_n 1) 1 7 from ⟨by decide +kernel, rfl⟩) ?_
  refine J_callVi (fun r => r) (fun _ => g1) (show Dc Y_X12_gain 7 (.invokevirtual 234) 3 10 from ⟨by decide +kernel, rfl⟩) w_m_RX12_234 w_in_X12_isParrot rfl w_se_X12_isParrot w_cw_X12_isParrot (c_X12_isParrot x0 x1 g1) rfl rfl (by decide) (Nat.le_of_ble_eq_true rfl) (by decide) (by decide) (fun v2 => ?_)
  refine J_if_eq (tg := 23) (show Dc Y_X12_gain 10 (.ifCond .eq 13) 3 13 from ⟨by decide +kernel, rfl⟩) (by decide) (fun h => ?_) (fun h => ?_)
  · refine J_mask [false, false, false, false, false] ?_
    exact j_X12_gain_23 N g1 h0
  · refine J_iload_n rfl rfl (show Dc Y_X12_gain 13 (.iload_n 2) 1 14 from ⟨by decide +kernel, rfl⟩) ?_
    refine J_iconst (0 : Int32) rfl (show Dc Y_X12_gain 14 (.iconst 0) 1 15 from ⟨by decide +kernel, rfl⟩) ?_
    refine J_bipush (8 : Int32) rfl (show Dc Y_X12_gain 15 (.bipush 8) 2 17 from ⟨by decide +kernel, rfl⟩) ?_
    refine J_callSi (fun r => r) (fun _ => g1) (show Dc Y_X12_gain 17 (.invokestatic 119) 3 20 from ⟨by decide +kernel, rfl⟩) w_m_RX12_119 w_st_X12_in w_cw_X12_in (c_X12_in x2 (0 : Int32) (8 : Int32) g1) rfl rfl (by decide) (Nat.le_of_ble_eq_true rfl) (by decide) (by decide) (fun v3 => ?_)
    refine J_if_ne (tg := 25) (show Dc Y_X12_gain 20 (.ifCond .ne 5) 3 23 from ⟨by decide +kernel, rfl⟩) (by decide) (fun h => ?_) (fun h => ?_)
    · refine J_iconst (0 : Int32) rfl (show Dc Y_X12_gain 25 (.iconst 0) 1 26 from ⟨by decide +kernel, rfl⟩) ?_
      refine J_istore_n [some (.ref x0), some (.int x1), some (.int x2), some (.int (0 : Int32)), none] (show Dc Y_X12_gain 26 (.istore_n 3) 1 27 from ⟨by decide +kernel, rfl⟩) rfl (by decide) rfl rfl ?_
      refine J_iconst (1 : Int32) rfl (show Dc Y_X12_gain 27 (.iconst 1) 1 28 from ⟨by decide +kernel, rfl⟩) ?_
      refine J_istore [some (.ref x0), some (.int x1), some (.int x2), some (.int (0 : Int32)), some (.int (1 : Int32))] (show Dc Y_X12_gain 28 (.istore 4) 2 30 from ⟨by decide +kernel, rfl⟩) (by decide) rfl rfl ?_
      exact J_loop (X := X) (K := K) (uc := fun _ => 0) (us := fun _ => 0) (lf := fun s => [some (.ref x0), some (.int x1), some (.int x2), some (.int s.1), some (.int s.2.1)]) (gf := fun s => s.2.2) (fun s => j_X12_gain_30 (K := zKl Y_X12_gain X 30 (fun _ => 0) (fun _ => 0) (fun s => [some (.ref x0), some (.int x1), some (.int x2), some (.int s.1), some (.int s.2.1)]) (fun s => s.2.2) K) N x0 x1 x2 s.1 s.2.1 s.2.2 h0 (fun s h => h)) N ((0 : Int32), (1 : Int32), g1)
    · refine J_mask [false, false, false, false, false] ?_
      exact j_X12_gain_23 N g1 h0

theorem c_X12_gain {l : Launch} {D : ZD} {B0 : Nat} (N : Nat) (x0 : Nat) (x1 : Int32) (x2 : Int32) (g : ZS) : ∀ r, f_X12_gain N x0 x1 x2 g = some r → zCt l D B0 yX12_gain Y_X12_gain [.ref x0, .int x1, .int x2] g (some (.int r.1)) r.2 :=
  zCt_ofF (vo := fun r => some (.int r.1)) (so := fun r => r.2) (by decide +kernel) rfl (fun h => by cases h) rfl (Nat.le_of_ble_eq_true rfl) (fun X => j_X12_gain N x0 x1 x2 g (fun _ _ h => h))

theorem j_X12_alike_148 {X : ZX} (N : Nat) (x0 : Nat) (x3 : Int32) (x4 : Int32) (x5 : Int32) (x6 : Int32) (x7 : Int32) (x8 : Int32) (x9 : Int32) (x10 : Int32)   (g : ZS) {K : ((Int32 × Int32 × Int32 × Int32 × ZS) ⊕ ((Int32 × Int32 × ZS) ⊕ (Int32 × ZS))) → Prop} (h0 : ∀ v g, K (.inr (.inr (v, g))) → xK X (some (.int v)) g) (hL51 : ∀ s, K (.inr (.inl s)) → zG Y_X12_alike X 0 0 51 [some (.ref x0), none, none, some (.int x3), some (.int x4), some (.int s.1), some (.int s.2.1), none, none, none, none, none] [] s.2.2) (hL71 : ∀ s, K (.inl s) → zG Y_X12_alike X 0 0 71 [some (.ref x0), none, none, some (.int x3), some (.int x4), some (.int x5), some (.int x6), some (.int s.1), some (.int s.2.1), some (.int s.2.2.1), some (.int s.2.2.2.1), none] [] s.2.2.2.2) : J Y_X12_alike X 0 0 148 [some (.ref x0), none, none, some (.int x3), some (.int x4), some (.int x5), some (.int x6), some (.int x7), some (.int x8), some (.int x9), some (.int x10), none] [] g (f_X12_alike_148 N x0 x3 x4 x5 x6 x7 x8 x9 x10 g) K := by
  unfold f_X12_alike_148
  refine J_iinc (1 : Int32) [some (.ref x0), none, none, some (.int x3), some (.int x4), some (.int x5), some (.int x6), some (.int x7), some (.int x8), some (.int x9), some (.int (x10 + (1 : Int32))), none] (show Dc Y_X12_alike 148 (.iinc 10 1) 3 151 from ⟨by decide +kernel, rfl⟩) rfl rfl (by decide) rfl rfl ?_
  refine J_goto (tg := 71) (show Dc Y_X12_alike 151 (.goto (-80)) 3 154 from ⟨by decide +kernel, rfl⟩) (by decide) ?_
  exact J_leaf (fun h => hL71 (x7, x8, x9, x10 + (1 : Int32), g) h)

theorem j_X12_alike_125 {X : ZX} (N : Nat) (x0 : Nat) (x3 : Int32) (x4 : Int32) (x5 : Int32) (x6 : Int32) (x7 : Int32) (x10 : Int32) (x11 : Int32) (s0 : Int32)  (g : ZS) {K : ((Int32 × Int32 × Int32 × Int32 × ZS) ⊕ ((Int32 × Int32 × ZS) ⊕ (Int32 × ZS))) → Prop} (h0 : ∀ v g, K (.inr (.inr (v, g))) → xK X (some (.int v)) g) (hL51 : ∀ s, K (.inr (.inl s)) → zG Y_X12_alike X 0 0 51 [some (.ref x0), none, none, some (.int x3), some (.int x4), some (.int s.1), some (.int s.2.1), none, none, none, none, none] [] s.2.2) (hL71 : ∀ s, K (.inl s) → zG Y_X12_alike X 0 0 71 [some (.ref x0), none, none, some (.int x3), some (.int x4), some (.int x5), some (.int x6), some (.int s.1), some (.int s.2.1), some (.int s.2.2.1), some (.int s.2.2.2.1), none] [] s.2.2.2.2) : J Y_X12_alike X 0 0 125 [some (.ref x0), none, none, some (.int x3), some (.int x4), some (.int x5), some (.int x6), some (.int x7), none, none, some (.int x10), some (.int x11)] [.int s0] g (f_X12_alike_125 N x0 x3 x4 x5 x6 x7 x10 x11 s0 g) K := by
  unfold f_X12_alike_125
  refine J_istore [some (.ref x0), none, none, some (.int x3), some (.int x4), some (.int x5), some (.int x6), some (.int x7), none, some (.int s0), some (.int x10), some (.int x11)] (show Dc Y_X12_alike 125 (.istore 9) 2 127 from ⟨by decide +kernel, rfl⟩) (by decide) rfl rfl ?_
  refine J_iload rfl (show Dc Y_X12_alike 127 (.iload 11) 2 129 from ⟨by decide +kernel, rfl⟩) ?_
  refine J_istore [some (.ref x0), none, none, some (.int x3), some (.int x4), some (.int x5), some (.int x6), some (.int x7), some (.int x11), some (.int s0), some (.int x10), some (.int x11)] (show Dc Y_X12_alike 129 (.istore 8) 2 131 from ⟨by decide +kernel, rfl⟩) (by decide) rfl rfl ?_
  refine J_aload_n rfl rfl (show Dc Y_X12_alike 131 (.aload_n 0) 1 132 from ⟨by decide +kernel, rfl⟩) ?_
  refine J_getR (show Dc Y_X12_alike 132 (.getfield 72) 3 135 from ⟨by decide +kernel, rfl⟩) w_f_RX12_72 rfl (fun v1 => ?_)
  refine J_iload rfl (show Dc Y_X12_alike 135 (.iload 7) 2 137 from ⟨by decide +kernel, rfl⟩) ?_
  refine J_aload_n rfl rfl (show Dc Y_X12_alike 137 (.aload_n 0) 1 138 from ⟨by decide +kernel, rfl⟩) ?_
  refine J_getR (show Dc Y_X12_alike 138 (.getfield 45) 3 141 from ⟨by decide +kernel, rfl⟩) w_f_RX12_45 rfl (fun v2 => ?_)
  refine J_iload rfl (show Dc Y_X12_alike 141 (.iload 10) 2 143 from ⟨by decide +kernel, rfl⟩) ?_
  refine J_iald (show Dc Y_X12_alike 143 (.iaload) 1 144 from ⟨by decide +kernel, rfl⟩) (fun v3 => ?_)
  refine J_iast (show Dc Y_X12_alike 144 (.iastore) 1 145 from ⟨by decide +kernel, rfl⟩) (fun g4 => ?_)
  refine J_iinc (1 : Int32) [some (.ref x0), none, none, some (.int x3), some (.int x4), some (.int x5), some (.int x6), some (.int (x7 + (1 : Int32))), some (.int x11), some (.int s0), some (.int x10), some (.int x11)] (show Dc Y_X12_alike 145 (.iinc 7 1) 3 148 from ⟨by decide +kernel, rfl⟩) rfl rfl (by decide) rfl rfl ?_
  refine J_mask [true, false, false, true, true, true, true, true, true, true, true, false] ?_
  exact j_X12_alike_148 N x0 x3 x4 x5 x6 (x7 + (1 : Int32)) x11 s0 x10 g4 h0 hL51 hL71

theorem j_X12_alike_219 {X : ZX} (N : Nat) (x0 : Nat) (x3 : Int32) (x4 : Int32) (x5 : Int32) (x6 : Int32)   (g : ZS) {K : ((Int32 × Int32 × ZS) ⊕ (Int32 × ZS)) → Prop} (h0 : ∀ v g, K (.inr (v, g)) → xK X (some (.int v)) g) (hL51 : ∀ s, K (.inl s) → zG Y_X12_alike X 0 0 51 [some (.ref x0), none, none, some (.int x3), some (.int x4), some (.int s.1), some (.int s.2.1), none, none, none, none, none] [] s.2.2) : J Y_X12_alike X 0 0 219 [some (.ref x0), none, none, some (.int x3), some (.int x4), some (.int x5), some (.int x6), none, none, none, none, none] [] g (f_X12_alike_219 N x0 x3 x4 x5 x6 g) K := by
  unfold f_X12_alike_219
  refine J_iinc (1 : Int32) [some (.ref x0), none, none, some (.int x3), some (.int x4), some (.int x5), some (.int (x6 + (1 : Int32))), none, none, none, none, none] (show Dc Y_X12_alike 219 (.iinc 6 1) 3 222 from ⟨by decide +kernel, rfl⟩) rfl rfl (by decide) rfl rfl ?_
  refine J_goto (tg := 51) (show Dc Y_X12_alike 222 (.goto (-171)) 3 225 from ⟨by decide +kernel, rfl⟩) (by decide) ?_
  exact J_leaf (fun h => hL51 (x5, x6 + (1 : Int32), g) h)

theorem j_X12_alike_192 {X : ZX} (N : Nat) (x0 : Nat) (x3 : Int32) (x4 : Int32) (x5 : Int32) (x6 : Int32) (x7 : Int32) (x10 : Int32)   (g : ZS) {K : ((Int32 × ZS) ⊕ ((Int32 × Int32 × ZS) ⊕ (Int32 × ZS))) → Prop} (h0 : ∀ v g, K (.inr (.inr (v, g))) → xK X (some (.int v)) g) (hL51 : ∀ s, K (.inr (.inl s)) → zG Y_X12_alike X 0 0 51 [some (.ref x0), none, none, some (.int x3), some (.int x4), some (.int s.1), some (.int s.2.1), none, none, none, none, none] [] s.2.2) (hL192 : ∀ s, K (.inl s) → zG Y_X12_alike X 0 0 192 [some (.ref x0), none, none, some (.int x3), some (.int x4), some (.int x5), some (.int x6), some (.int x7), none, none, some (.int s.1), none] [] s.2) : J Y_X12_alike X 0 0 192 [some (.ref x0), none, none, some (.int x3), some (.int x4), some (.int x5), some (.int x6), some (.int x7), none, none, some (.int x10), none] [] g (f_X12_alike_192 N x0 x3 x4 x5 x6 x7 x10 g) K := by
  unfold f_X12_alike_192
  refine J_iload rfl (show Dc Y_X12_alike 192 (.iload 10) 2 194 from ⟨by decide +kernel, rfl⟩) ?_
  refine J_iload rfl (show Dc Y_X12_alike 194 (.iload 7) 2 196 from ⟨by decide +kernel, rfl⟩) ?_
  refine J_icmp_ge (tg := 219) (show Dc Y_X12_alike 196 (.if_icmp .ge 23) 3 199 from ⟨by decide +kernel, rfl⟩) (by decide) (fun h => ?_) (fun h => ?_)
  · refine J_mask [true, false, false, true, true, true, true, false, false, false, false, false] ?_
    refine J_map (f := Sum.inr) (fun _ h => h) ?_
    exact j_X12_alike_219 (K := fun o => K (.inr o)) N x0 x3 x4 x5 x6 g h0 hL51
  · refine J_aload_n rfl rfl (show Dc Y_X12_alike 199 (.aload_n 0) 1 200 from ⟨by decide +kernel, rfl⟩) ?_
    refine J_getR (show Dc Y_X12_alike 200 (.getfield 75) 3 203 from ⟨by decide +kernel, rfl⟩) w_f_RX12_75 rfl (fun v1 => ?_)
    refine J_iload rfl (show Dc Y_X12_alike 203 (.iload 10) 2 205 from ⟨by decide +kernel, rfl⟩) ?_
    refine J_aload_n rfl rfl (show Dc Y_X12_alike 205 (.aload_n 0) 1 206 from ⟨by decide +kernel, rfl⟩) ?_
    refine J_getR (show Dc Y_X12_alike 206 (.getfield 72) 3 209 from ⟨by decide +kernel, rfl⟩) w_f_RX12_72 rfl (fun v2 => ?_)
    refine J_iload rfl (show Dc Y_X12_alike 209 (.iload 10) 2 211 from ⟨by decide +kernel, rfl⟩) ?_
    refine J_iald (show Dc Y_X12_alike 211 (.iaload) 1 212 from ⟨by decide +kernel, rfl⟩) (fun v3 => ?_)
    refine J_iast (show Dc Y_X12_alike 212 (.iastore) 1 213 from ⟨by decide +kernel, rfl⟩) (fun g4 => ?_)
    refine J_iinc (1 : Int32) [some (.ref x0), none, none, some (.int x3), some (.int x4), some (.int x5), some (.int x6), some (.int x7), none, none, some (.int (x10 + (1 : Int32))), none] (show Dc Y_X12_alike 213 (.iinc 10 1) 3 216 from ⟨by decide +kernel, rfl⟩) rfl rfl (by decide) rfl rfl ?_
    refine J_goto (tg := 192) (show Dc Y_X12_alike 216 (.goto (-24)) 3 219 from ⟨by decide +kernel, rfl⟩) (by decide) ?_
    exact J_leaf (fun h => hL192 (x10 + (1 : Int32), g4) h)

theorem j_X12_alike_185 {X : ZX} (N : Nat) (x0 : Nat) (x3 : Int32) (x4 : Int32) (x6 : Int32) (x7 : Int32)   (g : ZS) {K : ((Int32 × Int32 × ZS) ⊕ (Int32 × ZS)) → Prop} (h0 : ∀ v g, K (.inr (v, g)) → xK X (some (.int v)) g) (hL51 : ∀ s, K (.inl s) → zG Y_X12_alike X 0 0 51 [some (.ref x0), none, none, some (.int x3), some (.int x4), some (.int s.1), some (.int s.2.1), none, none, none, none, none] [] s.2.2) : J Y_X12_alike X 0 0 185 [some (.ref x0), none, none, some (.int x3), some (.int x4), none, some (.int x6), some (.int x7), none, none, none, none] [] g (f_X12_alike_185 N x0 x3 x4 x6 x7 g) K := by
  unfold f_X12_alike_185
  refine J_iload rfl (show Dc Y_X12_alike 185 (.iload 7) 2 187 from ⟨by decide +kernel, rfl⟩) ?_
  refine J_istore [some (.ref x0), none, none, some (.int x3), some (.int x4), some (.int x7), some (.int x6), some (.int x7), none, none, none, none] (show Dc Y_X12_alike 187 (.istore 5) 2 189 from ⟨by decide +kernel, rfl⟩) (by decide) rfl rfl ?_
  refine J_iconst (0 : Int32) rfl (show Dc Y_X12_alike 189 (.iconst 0) 1 190 from ⟨by decide +kernel, rfl⟩) ?_
  refine J_istore [some (.ref x0), none, none, some (.int x3), some (.int x4), some (.int x7), some (.int x6), some (.int x7), none, none, some (.int (0 : Int32)), none] (show Dc Y_X12_alike 190 (.istore 10) 2 192 from ⟨by decide +kernel, rfl⟩) (by decide) rfl rfl ?_
  exact J_loop (X := X) (K := K) (uc := fun _ => 0) (us := fun _ => 0) (lf := fun s => [some (.ref x0), none, none, some (.int x3), some (.int x4), some (.int x7), some (.int x6), some (.int x7), none, none, some (.int s.1), none]) (gf := fun s => s.2) (fun s => j_X12_alike_192 (K := zKl Y_X12_alike X 192 (fun _ => 0) (fun _ => 0) (fun s => [some (.ref x0), none, none, some (.int x3), some (.int x4), some (.int x7), some (.int x6), some (.int x7), none, none, some (.int s.1), none]) (fun s => s.2) K) N x0 x3 x4 x7 x6 x7 s.1 s.2 h0 hL51 (fun s h => h)) N ((0 : Int32), g)

theorem j_X12_alike_154 {X : ZX} (N : Nat) (x0 : Nat) (x3 : Int32) (x4 : Int32) (x5 : Int32) (x6 : Int32) (x7 : Int32) (x9 : Int32)   (g : ZS) {K : ((Int32 × Int32 × ZS) ⊕ (Int32 × ZS)) → Prop} (h0 : ∀ v g, K (.inr (v, g)) → xK X (some (.int v)) g) (hL51 : ∀ s, K (.inl s) → zG Y_X12_alike X 0 0 51 [some (.ref x0), none, none, some (.int x3), some (.int x4), some (.int s.1), some (.int s.2.1), none, none, none, none, none] [] s.2.2) : J Y_X12_alike X 0 0 154 [some (.ref x0), none, none, some (.int x3), some (.int x4), some (.int x5), some (.int x6), some (.int x7), none, some (.int x9), none, none] [] g (f_X12_alike_154 N x0 x3 x4 x5 x6 x7 x9 g) K := by
  unfold f_X12_alike_154
  refine J_iload rfl (show Dc Y_X12_alike 154 (.iload 9) 2 156 from ⟨by decide +kernel, rfl⟩) ?_
  refine J_if_eq (tg := 219) (show Dc Y_X12_alike 156 (.ifCond .eq 63) 3 159 from ⟨by decide +kernel, rfl⟩) (by decide) (fun h => ?_) (fun h => ?_)
  · refine J_mask [true, false, false, true, true, true, true, false, false, false, false, false] ?_
    exact j_X12_alike_219 N x0 x3 x4 x5 x6 g h0 hL51
  · refine J_iload rfl (show Dc Y_X12_alike 159 (.iload 7) 2 161 from ⟨by decide +kernel, rfl⟩) ?_
    refine J_iload rfl (show Dc Y_X12_alike 161 (.iload 5) 2 163 from ⟨by decide +kernel, rfl⟩) ?_
    refine J_icmp_lt (tg := 219) (show Dc Y_X12_alike 163 (.if_icmp .lt 56) 3 166 from ⟨by decide +kernel, rfl⟩) (by decide) (fun h => ?_) (fun h => ?_)
    · refine J_mask [true, false, false, true, true, true, true, false, false, false, false, false] ?_
      exact j_X12_alike_219 N x0 x3 x4 x5 x6 g h0 hL51
    · refine J_iload rfl (show Dc Y_X12_alike 166 (.iload 7) 2 168 from ⟨by decide +kernel, rfl⟩) ?_
      refine J_iload rfl (show Dc Y_X12_alike 168 (.iload 5) 2 170 from ⟨by decide +kernel, rfl⟩) ?_
      refine J_icmp_ne (tg := 185) (show Dc Y_X12_alike 170 (.if_icmp .ne 15) 3 173 from ⟨by decide +kernel, rfl⟩) (by decide) (fun h => ?_) (fun h => ?_)
      · refine J_mask [true, false, false, true, true, false, true, true, false, false, false, false] ?_
        exact j_X12_alike_185 N x0 x3 x4 x6 x7 g h0 hL51
      · refine J_aload_n rfl rfl (show Dc Y_X12_alike 173 (.aload_n 0) 1 174 from ⟨by decide +kernel, rfl⟩) ?_
        refine J_iload rfl (show Dc Y_X12_alike 174 (.iload 7) 2 176 from ⟨by decide +kernel, rfl⟩) ?_
        refine J_callVi (fun r => r) (fun _ => g) (show Dc Y_X12_alike 176 (.invokevirtual 348) 3 179 from ⟨by decide +kernel, rfl⟩) w_m_RX12_348 w_in_X12_isLess rfl w_se_X12_isLess w_cw_X12_isLess (c_X12_isLess N x0 x7 g) rfl rfl (by decide) (Nat.le_of_ble_eq_true rfl) (by decide) (by decide) (fun v1 => ?_)
        refine J_if_ne (tg := 185) (show Dc Y_X12_alike 179 (.ifCond .ne 6) 3 182 from ⟨by decide +kernel, rfl⟩) (by decide) (fun h => ?_) (fun h => ?_)
        · refine J_mask [true, false, false, true, true, false, true, true, false, false, false, false] ?_
          exact j_X12_alike_185 N x0 x3 x4 x6 x7 g h0 hL51
        · refine J_goto (tg := 219) (show Dc Y_X12_alike 182 (.goto 37) 3 185 from ⟨by decide +kernel, rfl⟩) (by decide) ?_
          refine J_mask [true, false, false, true, true, true, true, false, false, false, false, false] ?_
          exact j_X12_alike_219 N x0 x3 x4 x5 x6 g h0 hL51

theorem j_X12_alike_71 {X : ZX} (N : Nat) (x0 : Nat) (x3 : Int32) (x4 : Int32) (x5 : Int32) (x6 : Int32) (x7 : Int32) (x8 : Int32) (x9 : Int32) (x10 : Int32)   (g : ZS) {K : ((Int32 × Int32 × Int32 × Int32 × ZS) ⊕ ((Int32 × Int32 × ZS) ⊕ (Int32 × ZS))) → Prop} (h0 : ∀ v g, K (.inr (.inr (v, g))) → xK X (some (.int v)) g) (hL51 : ∀ s, K (.inr (.inl s)) → zG Y_X12_alike X 0 0 51 [some (.ref x0), none, none, some (.int x3), some (.int x4), some (.int s.1), some (.int s.2.1), none, none, none, none, none] [] s.2.2) (hL71 : ∀ s, K (.inl s) → zG Y_X12_alike X 0 0 71 [some (.ref x0), none, none, some (.int x3), some (.int x4), some (.int x5), some (.int x6), some (.int s.1), some (.int s.2.1), some (.int s.2.2.1), some (.int s.2.2.2.1), none] [] s.2.2.2.2) : J Y_X12_alike X 0 0 71 [some (.ref x0), none, none, some (.int x3), some (.int x4), some (.int x5), some (.int x6), some (.int x7), some (.int x8), some (.int x9), some (.int x10), none] [] g (f_X12_alike_71 N x0 x3 x4 x5 x6 x7 x8 x9 x10 g) K := by
  unfold f_X12_alike_71
  refine J_iload rfl (show Dc Y_X12_alike 71 (.iload 10) 2 73 from ⟨by decide +kernel, rfl⟩) ?_
  refine J_iload_n rfl rfl (show Dc Y_X12_alike 73 (.iload_n 3) 1 74 from ⟨by decide +kernel, rfl⟩) ?_
  refine J_icmp_ge (tg := 154) (show Dc Y_X12_alike 74 (.if_icmp .ge 80) 3 77 from ⟨by decide +kernel, rfl⟩) (by decide) (fun h => ?_) (fun h => ?_)
  · refine J_mask [true, false, false, true, true, true, true, true, false, true, false, false] ?_
    refine J_map (f := Sum.inr) (fun _ h => h) ?_
    exact j_X12_alike_154 (K := fun o => K (.inr o)) N x0 x3 x4 x5 x6 x7 x9 g h0 hL51
  · refine J_iload rfl (show Dc Y_X12_alike 77 (.iload 9) 2 79 from ⟨by decide +kernel, rfl⟩) ?_
    refine J_if_eq (tg := 154) (show Dc Y_X12_alike 79 (.ifCond .eq 75) 3 82 from ⟨by decide +kernel, rfl⟩) (by decide) (fun h => ?_) (fun h => ?_)
    · refine J_mask [true, false, false, true, true, true, true, true, false, true, false, false] ?_
      refine J_map (f := Sum.inr) (fun _ h => h) ?_
      exact j_X12_alike_154 (K := fun o => K (.inr o)) N x0 x3 x4 x5 x6 x7 x9 g h0 hL51
    · refine J_iload rfl (show Dc Y_X12_alike 82 (.iload 6) 2 84 from ⟨by decide +kernel, rfl⟩) ?_
      refine J_iload rfl (show Dc Y_X12_alike 84 (.iload 10) 2 86 from ⟨by decide +kernel, rfl⟩) ?_
      refine J_callSi (fun r => r) (fun _ => g) (show Dc Y_X12_alike 86 (.invokestatic 328) 3 89 from ⟨by decide +kernel, rfl⟩) w_m_RX12_328 w_st_X12_has w_cw_X12_has (c_X12_has x6 x10 g) rfl rfl (by decide) (Nat.le_of_ble_eq_true rfl) (by decide) (by decide) (fun v1 => ?_)
      refine J_if_ne (tg := 95) (show Dc Y_X12_alike 89 (.ifCond .ne 6) 3 92 from ⟨by decide +kernel, rfl⟩) (by decide) (fun h => ?_) (fun h => ?_)
      · refine J_aload_n rfl rfl (show Dc Y_X12_alike 95 (.aload_n 0) 1 96 from ⟨by decide +kernel, rfl⟩) ?_
        refine J_getR (show Dc Y_X12_alike 96 (.getfield 48) 3 99 from ⟨by decide +kernel, rfl⟩) w_f_RX12_48 rfl (fun v2 => ?_)
        refine J_iload rfl (show Dc Y_X12_alike 99 (.iload 4) 2 101 from ⟨by decide +kernel, rfl⟩) ?_
        refine J_aload_n rfl rfl (show Dc Y_X12_alike 101 (.aload_n 0) 1 102 from ⟨by decide +kernel, rfl⟩) ?_
        refine J_getR (show Dc Y_X12_alike 102 (.getfield 45) 3 105 from ⟨by decide +kernel, rfl⟩) w_f_RX12_45 rfl (fun v3 => ?_)
        refine J_iload rfl (show Dc Y_X12_alike 105 (.iload 10) 2 107 from ⟨by decide +kernel, rfl⟩) ?_
        refine J_iald (show Dc Y_X12_alike 107 (.iaload) 1 108 from ⟨by decide +kernel, rfl⟩) (fun v4 => ?_)
        refine J_callSi (fun r => r) (fun _ => g) (show Dc Y_X12_alike 108 (.invokestatic 345) 3 111 from ⟨by decide +kernel, rfl⟩) w_m_RX12_345 w_st_X12_spotOf w_cw_X12_spotOf (c_X12_spotOf N v2 x4 v4 g) rfl rfl (by decide) (Nat.le_of_ble_eq_true rfl) (by decide) (by decide) (fun v5 => ?_)
        refine J_istore [some (.ref x0), none, none, some (.int x3), some (.int x4), some (.int x5), some (.int x6), some (.int x7), some (.int x8), some (.int x9), some (.int x10), some (.int v5)] (show Dc Y_X12_alike 111 (.istore 11) 2 113 from ⟨by decide +kernel, rfl⟩) (by decide) rfl rfl ?_
        refine J_iload rfl (show Dc Y_X12_alike 113 (.iload 11) 2 115 from ⟨by decide +kernel, rfl⟩) ?_
        refine J_iload rfl (show Dc Y_X12_alike 115 (.iload 8) 2 117 from ⟨by decide +kernel, rfl⟩) ?_
        refine J_icmp_le (tg := 124) (show Dc Y_X12_alike 117 (.if_icmp .le 7) 3 120 from ⟨by decide +kernel, rfl⟩) (by decide) (fun h => ?_) (fun h => ?_)
        · refine J_iconst (0 : Int32) rfl (show Dc Y_X12_alike 124 (.iconst 0) 1 125 from ⟨by decide +kernel, rfl⟩) ?_
          refine J_mask [true, false, false, true, true, true, true, true, false, false, true, true] ?_
          exact j_X12_alike_125 N x0 x3 x4 x5 x6 x7 x10 v5 (0 : Int32) g h0 hL51 hL71
        · refine J_iconst (1 : Int32) rfl (show Dc Y_X12_alike 120 (.iconst 1) 1 121 from ⟨by decide +kernel, rfl⟩) ?_
          refine J_goto (tg := 125) (show Dc Y_X12_alike 121 (.goto 4) 3 124 from ⟨by decide +kernel, rfl⟩) (by decide) ?_
          refine J_mask [true, false, false, true, true, true, true, true, false, false, true, true] ?_
          exact j_X12_alike_125 N x0 x3 x4 x5 x6 x7 x10 v5 (1 : Int32) g h0 hL51 hL71
      · refine J_goto (tg := 148) (show Dc Y_X12_alike 92 (.goto 56) 3 95 from ⟨by decide +kernel, rfl⟩) (by decide) ?_
        exact j_X12_alike_148 N x0 x3 x4 x5 x6 x7 x8 x9 x10 g h0 hL51 hL71

theorem j_X12_alike_51 {X : ZX} (N : Nat) (x0 : Nat) (x3 : Int32) (x4 : Int32) (x5 : Int32) (x6 : Int32)   (g : ZS) {K : ((Int32 × Int32 × ZS) ⊕ (Int32 × ZS)) → Prop} (h0 : ∀ v g, K (.inr (v, g)) → xK X (some (.int v)) g) (hL51 : ∀ s, K (.inl s) → zG Y_X12_alike X 0 0 51 [some (.ref x0), none, none, some (.int x3), some (.int x4), some (.int s.1), some (.int s.2.1), none, none, none, none, none] [] s.2.2) : J Y_X12_alike X 0 0 51 [some (.ref x0), none, none, some (.int x3), some (.int x4), some (.int x5), some (.int x6), none, none, none, none, none] [] g (f_X12_alike_51 N x0 x3 x4 x5 x6 g) K := by
  unfold f_X12_alike_51
  refine J_iload rfl (show Dc Y_X12_alike 51 (.iload 6) 2 53 from ⟨by decide +kernel, rfl⟩) ?_
  refine J_iconst (1 : Int32) rfl (show Dc Y_X12_alike 53 (.iconst 1) 1 54 from ⟨by decide +kernel, rfl⟩) ?_
  refine J_iload_n rfl rfl (show Dc Y_X12_alike 54 (.iload_n 3) 1 55 from ⟨by decide +kernel, rfl⟩) ?_
  refine J_ishl (show Dc Y_X12_alike 55 (.ishl) 1 56 from ⟨by decide +kernel, rfl⟩) ?_
  refine J_icmp_ge (tg := 225) (show Dc Y_X12_alike 56 (.if_icmp .ge 169) 3 59 from ⟨by decide +kernel, rfl⟩) (by decide) (fun h => ?_) (fun h => ?_)
  · refine J_map (f := Sum.inr) (fun _ h => h) ?_
    refine J_aload_n rfl rfl (show Dc Y_X12_alike 225 (.aload_n 0) 1 226 from ⟨by decide +kernel, rfl⟩) ?_
    refine J_aload_n rfl rfl (show Dc Y_X12_alike 226 (.aload_n 0) 1 227 from ⟨by decide +kernel, rfl⟩) ?_
    refine J_getR (show Dc Y_X12_alike 227 (.getfield 75) 3 230 from ⟨by decide +kernel, rfl⟩) w_f_RX12_75 rfl (fun v1 => ?_)
    refine J_iload rfl (show Dc Y_X12_alike 230 (.iload 5) 2 232 from ⟨by decide +kernel, rfl⟩) ?_
    refine J_callVv (fun r => r) (show Dc Y_X12_alike 232 (.invokevirtual 313) 3 235 from ⟨by decide +kernel, rfl⟩) w_m_RX12_313 w_in_X12_tellList rfl w_se_X12_tellList w_cw_X12_tellList (c_X12_tellList N x0 v1 x5 g) rfl rfl (by decide) (Nat.le_of_ble_eq_true rfl) (by decide) (by decide) (fun g2 => ?_)
    refine J_iload rfl (show Dc Y_X12_alike 235 (.iload 5) 2 237 from ⟨by decide +kernel, rfl⟩) ?_
    exact J_reti (show Dc Y_X12_alike 237 (.ireturn) 1 238 from ⟨by decide +kernel, rfl⟩) rfl (h0 _ _) (by decide) (by decide)
  · refine J_iconst (0 : Int32) rfl (show Dc Y_X12_alike 59 (.iconst 0) 1 60 from ⟨by decide +kernel, rfl⟩) ?_
    refine J_istore [some (.ref x0), none, none, some (.int x3), some (.int x4), some (.int x5), some (.int x6), some (.int (0 : Int32)), none, none, none, none] (show Dc Y_X12_alike 60 (.istore 7) 2 62 from ⟨by decide +kernel, rfl⟩) (by decide) rfl rfl ?_
    refine J_iconst (-1 : Int32) rfl (show Dc Y_X12_alike 62 (.iconst (-1)) 1 63 from ⟨by decide +kernel, rfl⟩) ?_
    refine J_istore [some (.ref x0), none, none, some (.int x3), some (.int x4), some (.int x5), some (.int x6), some (.int (0 : Int32)), some (.int (-1 : Int32)), none, none, none] (show Dc Y_X12_alike 63 (.istore 8) 2 65 from ⟨by decide +kernel, rfl⟩) (by decide) rfl rfl ?_
    refine J_iconst (1 : Int32) rfl (show Dc Y_X12_alike 65 (.iconst 1) 1 66 from ⟨by decide +kernel, rfl⟩) ?_
    refine J_istore [some (.ref x0), none, none, some (.int x3), some (.int x4), some (.int x5), some (.int x6), some (.int (0 : Int32)), some (.int (-1 : Int32)), some (.int (1 : Int32)), none, none] (show Dc Y_X12_alike 66 (.istore 9) 2 68 from ⟨by decide +kernel, rfl⟩) (by decide) rfl rfl ?_
    refine J_iconst (0 : Int32) rfl (show Dc Y_X12_alike 68 (.iconst 0) 1 69 from ⟨by decide +kernel, rfl⟩) ?_
    refine J_istore [some (.ref x0), none, none, some (.int x3), some (.int x4), some (.int x5), some (.int x6), some (.int (0 : Int32)), some (.int (-1 : Int32)), some (.int (1 : Int32)), some (.int (0 : Int32)), none] (show Dc Y_X12_alike 69 (.istore 10) 2 71 from ⟨by decide +kernel, rfl⟩) (by decide) rfl rfl ?_
    exact J_loop (X := X) (K := K) (uc := fun _ => 0) (us := fun _ => 0) (lf := fun s => [some (.ref x0), none, none, some (.int x3), some (.int x4), some (.int x5), some (.int x6), some (.int s.1), some (.int s.2.1), some (.int s.2.2.1), some (.int s.2.2.2.1), none]) (gf := fun s => s.2.2.2.2) (fun s => j_X12_alike_71 (K := zKl Y_X12_alike X 71 (fun _ => 0) (fun _ => 0) (fun s => [some (.ref x0), none, none, some (.int x3), some (.int x4), some (.int x5), some (.int x6), some (.int s.1), some (.int s.2.1), some (.int s.2.2.1), some (.int s.2.2.2.1), none]) (fun s => s.2.2.2.2) K) N x0 x3 x4 x5 x6 s.1 s.2.1 s.2.2.1 s.2.2.2.1 s.2.2.2.2 h0 hL51 (fun s h => h)) N ((0 : Int32), (-1 : Int32), (1 : Int32), (0 : Int32), g)

theorem j_X12_alike {X : ZX} (N : Nat) (x0 : Nat) (x1 : Int32) (x2 : Int32)   (g : ZS) {K : (Int32 × ZS) → Prop} (h0 : ∀ v g, K (v, g) → xK X (some (.int v)) g) : J Y_X12_alike X 0 0 0 [some (.ref x0), some (.int x1), some (.int x2), none, none, none, none, none, none, none, none, none] [] g (f_X12_alike N x0 x1 x2 g) K := by
  unfold f_X12_alike
  refine J_aload_n rfl rfl (show Dc Y_X12_alike 0 (.aload_n 0) 1 1 from ⟨by decide +kernel, rfl⟩) ?_
  refine J_iconst (0 : Int32) rfl (show Dc Y_X12_alike 1 (.iconst 0) 1 2 from ⟨by decide +kernel, rfl⟩) ?_
  refine J_putI (show Dc Y_X12_alike 2 (.putfield 109) 3 5 from ⟨by decide +kernel, rfl⟩) w_f_RX12_109 rfl rfl (fun g1 => ?_) (fun h => by cases h)
  refine J_aload_n rfl rfl (show Dc Y_X12_alike 5 (.aload_n 0) 1 6 from ⟨by decide +kernel, rfl⟩) ?_
  refine J_iload_n rfl rfl (show Dc Y_X12_alike 6 (.iload_n 1) 1 7 from ⟨by decide +kernel, rfl⟩) ?_
  refine J_iload_n rfl rfl (show Dc Y_X12_alike 7 (.iload_n 2) 1 8 from ⟨by decide +kernel, rfl⟩) ?_
  refine J_callVi (fun r => r) (fun _ => g1) (show Dc Y_X12_alike 8 (.invokevirtual 342) 3 11 from ⟨by decide +kernel, rfl⟩) w_m_RX12_342 w_in_X12_areTwo rfl w_se_X12_areTwo w_cw_X12_areTwo (c_X12_areTwo x0 x1 x2 g1) rfl rfl (by decide) (Nat.le_of_ble_eq_true rfl) (by decide) (by decide) (fun v2 => ?_)
  refine J_if_ne (tg := 16) (show Dc Y_X12_alike 11 (.ifCond .ne 5) 3 14 from ⟨by decide +kernel, rfl⟩) (by decide) (fun h => ?_) (fun h => ?_)
  · refine J_aload_n rfl rfl (show Dc Y_X12_alike 16 (.aload_n 0) 1 17 from ⟨by decide +kernel, rfl⟩) ?_
    refine J_aload_n rfl rfl (show Dc Y_X12_alike 17 (.aload_n 0) 1 18 from ⟨by decide +kernel, rfl⟩) ?_
    refine J_getR (show Dc Y_X12_alike 18 (.getfield 9) 3 21 from ⟨by decide +kernel, rfl⟩) w_f_RX12_9 rfl (fun v3 => ?_)
    refine J_iload_n rfl rfl (show Dc Y_X12_alike 21 (.iload_n 1) 1 22 from ⟨by decide +kernel, rfl⟩) ?_
    refine J_aload_n rfl rfl (show Dc Y_X12_alike 22 (.aload_n 0) 1 23 from ⟨by decide +kernel, rfl⟩) ?_
    refine J_getR (show Dc Y_X12_alike 23 (.getfield 45) 3 26 from ⟨by decide +kernel, rfl⟩) w_f_RX12_45 rfl (fun v4 => ?_)
    refine J_callVi (fun r => r.1) (fun r => r.2) (show Dc Y_X12_alike 26 (.invokevirtual 291) 3 29 from ⟨by decide +kernel, rfl⟩) w_m_RX12_291 w_in_X12_laySays rfl w_se_X12_laySays w_cw_X12_laySays (c_X12_laySays N x0 v3 x1 v4 g1) rfl rfl (by decide) (Nat.le_of_ble_eq_true rfl) (by decide) (by decide) (fun r5 => ?_)
    refine J_istore_n [some (.ref x0), some (.int x1), some (.int x2), some (.int r5.1), none, none, none, none, none, none, none, none] (show Dc Y_X12_alike 29 (.istore_n 3) 1 30 from ⟨by decide +kernel, rfl⟩) rfl (by decide) rfl rfl ?_
    refine J_aload_n rfl rfl (show Dc Y_X12_alike 30 (.aload_n 0) 1 31 from ⟨by decide +kernel, rfl⟩) ?_
    refine J_aload_n rfl rfl (show Dc Y_X12_alike 31 (.aload_n 0) 1 32 from ⟨by decide +kernel, rfl⟩) ?_
    refine J_getR (show Dc Y_X12_alike 32 (.getfield 9) 3 35 from ⟨by decide +kernel, rfl⟩) w_f_RX12_9 rfl (fun v6 => ?_)
    refine J_iload_n rfl rfl (show Dc Y_X12_alike 35 (.iload_n 2) 1 36 from ⟨by decide +kernel, rfl⟩) ?_
    refine J_aload_n rfl rfl (show Dc Y_X12_alike 36 (.aload_n 0) 1 37 from ⟨by decide +kernel, rfl⟩) ?_
    refine J_getR (show Dc Y_X12_alike 37 (.getfield 48) 3 40 from ⟨by decide +kernel, rfl⟩) w_f_RX12_48 rfl (fun v7 => ?_)
    refine J_callVi (fun r => r.1) (fun r => r.2) (show Dc Y_X12_alike 40 (.invokevirtual 291) 3 43 from ⟨by decide +kernel, rfl⟩) w_m_RX12_291 w_in_X12_laySays rfl w_se_X12_laySays w_cw_X12_laySays (c_X12_laySays N x0 v6 x2 v7 r5.2) rfl rfl (by decide) (Nat.le_of_ble_eq_true rfl) (by decide) (by decide) (fun r8 => ?_)
    refine J_istore [some (.ref x0), some (.int x1), some (.int x2), some (.int r5.1), some (.int r8.1), none, none, none, none, none, none, none] (show Dc Y_X12_alike 43 (.istore 4) 2 45 from ⟨by decide +kernel, rfl⟩) (by decide) rfl rfl ?_
    refine J_iconst (0 : Int32) rfl (show Dc Y_X12_alike 45 (.iconst 0) 1 46 from ⟨by decide +kernel, rfl⟩) ?_
    refine J_istore [some (.ref x0), some (.int x1), some (.int x2), some (.int r5.1), some (.int r8.1), some (.int (0 : Int32)), none, none, none, none, none, none] (show Dc Y_X12_alike 46 (.istore 5) 2 48 from ⟨by decide +kernel, rfl⟩) (by decide) rfl rfl ?_
    refine J_iconst (1 : Int32) rfl (show Dc Y_X12_alike 48 (.iconst 1) 1 49 from ⟨by decide +kernel, rfl⟩) ?_
    refine J_istore [some (.ref x0), some (.int x1), some (.int x2), some (.int r5.1), some (.int r8.1), some (.int (0 : Int32)), some (.int (1 : Int32)), none, none, none, none, none] (show Dc Y_X12_alike 49 (.istore 6) 2 51 from ⟨by decide +kernel, rfl⟩) (by decide) rfl rfl ?_
    refine J_mask [true, false, false, true, true, true, true, false, false, false, false, false] ?_
    exact J_loop (X := X) (K := K) (uc := fun _ => 0) (us := fun _ => 0) (lf := fun s => [some (.ref x0), none, none, some (.int r5.1), some (.int r8.1), some (.int s.1), some (.int s.2.1), none, none, none, none, none]) (gf := fun s => s.2.2) (fun s => j_X12_alike_51 (K := zKl Y_X12_alike X 51 (fun _ => 0) (fun _ => 0) (fun s => [some (.ref x0), none, none, some (.int r5.1), some (.int r8.1), some (.int s.1), some (.int s.2.1), none, none, none, none, none]) (fun s => s.2.2) K) N x0 r5.1 r8.1 s.1 s.2.1 s.2.2 h0 (fun s h => h)) N ((0 : Int32), (1 : Int32), r8.2)
  · refine J_iconst (-1 : Int32) rfl (show Dc Y_X12_alike 14 (.iconst (-1)) 1 15 from ⟨by decide +kernel, rfl⟩) ?_
    exact J_reti (show Dc Y_X12_alike 15 (.ireturn) 1 16 from ⟨by decide +kernel, rfl⟩) rfl (h0 _ _) (by decide) (by decide)

theorem c_X12_alike {l : Launch} {D : ZD} {B0 : Nat} (N : Nat) (x0 : Nat) (x1 : Int32) (x2 : Int32) (g : ZS) : ∀ r, f_X12_alike N x0 x1 x2 g = some r → zCt l D B0 yX12_alike Y_X12_alike [.ref x0, .int x1, .int x2] g (some (.int r.1)) r.2 :=
  zCt_ofF (vo := fun r => some (.int r.1)) (so := fun r => r.2) (by decide +kernel) rfl (fun h => by cases h) rfl (Nat.le_of_ble_eq_true rfl) (fun X => j_X12_alike N x0 x1 x2 g (fun _ _ h => h))

theorem j_X12_unlike_140 {X : ZX} (N : Nat) (x0 : Nat) (x3 : Int32) (x4 : Int32) (x5 : Int32) (x7 : Int32) (x8 : Int32) (x9 : Int32) (s0 : Int32) (s1 : Int32)  (g : ZS) {K : ((Int32 × Int32) ⊕ ((Int32 × Int32 × Int32) ⊕ (Int32 × ZS))) → Prop} (h0 : ∀ v g, K (.inr (.inr (v, g))) → xK X (some (.int v)) g) (hL54 : ∀ s, K (.inr (.inl s)) → zG Y_X12_unlike X 0 0 54 [some (.ref x0), none, none, some (.int x3), some (.int x4), some (.int s.1), some (.int s.2.1), some (.int s.2.2), none, none, none] [] g) (hL96 : ∀ s, K (.inl s) → zG Y_X12_unlike X 0 0 96 [some (.ref x0), none, none, some (.int x3), some (.int x4), some (.int x5), some (.int s.1), some (.int x7), some (.int x8), some (.int s.2), none] [] g) : J Y_X12_unlike X 0 0 140 [some (.ref x0), none, none, some (.int x3), some (.int x4), some (.int x5), none, some (.int x7), some (.int x8), some (.int x9), none] [.int s1, .int s0] g (f_X12_unlike_140 N x0 x3 x4 x5 x7 x8 x9 s0 s1 g) K := by
  unfold f_X12_unlike_140
  refine J_iadd (show Dc Y_X12_unlike 140 (.iadd) 1 141 from ⟨by decide +kernel, rfl⟩) ?_
  refine J_istore [some (.ref x0), none, none, some (.int x3), some (.int x4), some (.int x5), some (.int (s0 + s1)), some (.int x7), some (.int x8), some (.int x9), none] (show Dc Y_X12_unlike 141 (.istore 6) 2 143 from ⟨by decide +kernel, rfl⟩) (by decide) rfl rfl ?_
  refine J_iinc (1 : Int32) [some (.ref x0), none, none, some (.int x3), some (.int x4), some (.int x5), some (.int (s0 + s1)), some (.int x7), some (.int x8), some (.int (x9 + (1 : Int32))), none] (show Dc Y_X12_unlike 143 (.iinc 9 1) 3 146 from ⟨by decide +kernel, rfl⟩) rfl rfl (by decide) rfl rfl ?_
  refine J_goto (tg := 96) (show Dc Y_X12_unlike 146 (.goto (-50)) 3 149 from ⟨by decide +kernel, rfl⟩) (by decide) ?_
  exact J_leaf (fun h => hL96 (s0 + s1, x9 + (1 : Int32)) h)

theorem j_X12_unlike_139 {X : ZX} (N : Nat) (x0 : Nat) (x3 : Int32) (x4 : Int32) (x5 : Int32) (x7 : Int32) (x8 : Int32) (x9 : Int32) (s0 : Int32)  (g : ZS) {K : ((Int32 × Int32) ⊕ ((Int32 × Int32 × Int32) ⊕ (Int32 × ZS))) → Prop} (h0 : ∀ v g, K (.inr (.inr (v, g))) → xK X (some (.int v)) g) (hL54 : ∀ s, K (.inr (.inl s)) → zG Y_X12_unlike X 0 0 54 [some (.ref x0), none, none, some (.int x3), some (.int x4), some (.int s.1), some (.int s.2.1), some (.int s.2.2), none, none, none] [] g) (hL96 : ∀ s, K (.inl s) → zG Y_X12_unlike X 0 0 96 [some (.ref x0), none, none, some (.int x3), some (.int x4), some (.int x5), some (.int s.1), some (.int x7), some (.int x8), some (.int s.2), none] [] g) : J Y_X12_unlike X 0 0 139 [some (.ref x0), none, none, some (.int x3), some (.int x4), some (.int x5), none, some (.int x7), some (.int x8), some (.int x9), none] [.int s0] g (f_X12_unlike_139 N x0 x3 x4 x5 x7 x8 x9 s0 g) K := by
  unfold f_X12_unlike_139
  refine J_iconst (0 : Int32) rfl (show Dc Y_X12_unlike 139 (.iconst 0) 1 140 from ⟨by decide +kernel, rfl⟩) ?_
  exact j_X12_unlike_140 N x0 x3 x4 x5 x7 x8 x9 s0 (0 : Int32) g h0 hL54 hL96

theorem j_X12_unlike_149 {X : ZX} (N : Nat) (x0 : Nat) (x3 : Int32) (x4 : Int32) (x5 : Int32) (x6 : Int32) (x7 : Int32)   (g : ZS) {K : ((Int32 × Int32 × Int32) ⊕ (Int32 × ZS)) → Prop} (h0 : ∀ v g, K (.inr (v, g)) → xK X (some (.int v)) g) (hL54 : ∀ s, K (.inl s) → zG Y_X12_unlike X 0 0 54 [some (.ref x0), none, none, some (.int x3), some (.int x4), some (.int s.1), some (.int s.2.1), some (.int s.2.2), none, none, none] [] g) : J Y_X12_unlike X 0 0 149 [some (.ref x0), none, none, some (.int x3), some (.int x4), some (.int x5), some (.int x6), some (.int x7), none, none, none] [] g (f_X12_unlike_149 N x0 x3 x4 x5 x6 x7 g) K := by
  unfold f_X12_unlike_149
  refine J_iinc (1 : Int32) [some (.ref x0), none, none, some (.int x3), some (.int x4), some (.int x5), some (.int x6), some (.int (x7 + (1 : Int32))), none, none, none] (show Dc Y_X12_unlike 149 (.iinc 7 1) 3 152 from ⟨by decide +kernel, rfl⟩) rfl rfl (by decide) rfl rfl ?_
  refine J_goto (tg := 54) (show Dc Y_X12_unlike 152 (.goto (-98)) 3 155 from ⟨by decide +kernel, rfl⟩) (by decide) ?_
  exact J_leaf (fun h => hL54 (x5, x6, x7 + (1 : Int32)) h)

theorem j_X12_unlike_96 {X : ZX} (N : Nat) (x0 : Nat) (x3 : Int32) (x4 : Int32) (x5 : Int32) (x6 : Int32) (x7 : Int32) (x8 : Int32) (x9 : Int32)   (g : ZS) {K : ((Int32 × Int32) ⊕ ((Int32 × Int32 × Int32) ⊕ (Int32 × ZS))) → Prop} (h0 : ∀ v g, K (.inr (.inr (v, g))) → xK X (some (.int v)) g) (hL54 : ∀ s, K (.inr (.inl s)) → zG Y_X12_unlike X 0 0 54 [some (.ref x0), none, none, some (.int x3), some (.int x4), some (.int s.1), some (.int s.2.1), some (.int s.2.2), none, none, none] [] g) (hL96 : ∀ s, K (.inl s) → zG Y_X12_unlike X 0 0 96 [some (.ref x0), none, none, some (.int x3), some (.int x4), some (.int x5), some (.int s.1), some (.int x7), some (.int x8), some (.int s.2), none] [] g) : J Y_X12_unlike X 0 0 96 [some (.ref x0), none, none, some (.int x3), some (.int x4), some (.int x5), some (.int x6), some (.int x7), some (.int x8), some (.int x9), none] [] g (f_X12_unlike_96 N x0 x3 x4 x5 x6 x7 x8 x9 g) K := by
  unfold f_X12_unlike_96
  refine J_iload rfl (show Dc Y_X12_unlike 96 (.iload 9) 2 98 from ⟨by decide +kernel, rfl⟩) ?_
  refine J_iload_n rfl rfl (show Dc Y_X12_unlike 98 (.iload_n 3) 1 99 from ⟨by decide +kernel, rfl⟩) ?_
  refine J_icmp_ge (tg := 149) (show Dc Y_X12_unlike 99 (.if_icmp .ge 50) 3 102 from ⟨by decide +kernel, rfl⟩) (by decide) (fun h => ?_) (fun h => ?_)
  · refine J_mask [true, false, false, true, true, true, true, true, false, false, false] ?_
    refine J_map (f := Sum.inr) (fun _ h => h) ?_
    exact j_X12_unlike_149 (K := fun o => K (.inr o)) N x0 x3 x4 x5 x6 x7 g h0 hL54
  · refine J_aload_n rfl rfl (show Dc Y_X12_unlike 102 (.aload_n 0) 1 103 from ⟨by decide +kernel, rfl⟩) ?_
    refine J_getR (show Dc Y_X12_unlike 103 (.getfield 48) 3 106 from ⟨by decide +kernel, rfl⟩) w_f_RX12_48 rfl (fun v1 => ?_)
    refine J_iload rfl (show Dc Y_X12_unlike 106 (.iload 4) 2 108 from ⟨by decide +kernel, rfl⟩) ?_
    refine J_aload_n rfl rfl (show Dc Y_X12_unlike 108 (.aload_n 0) 1 109 from ⟨by decide +kernel, rfl⟩) ?_
    refine J_getR (show Dc Y_X12_unlike 109 (.getfield 45) 3 112 from ⟨by decide +kernel, rfl⟩) w_f_RX12_45 rfl (fun v2 => ?_)
    refine J_iload rfl (show Dc Y_X12_unlike 112 (.iload 9) 2 114 from ⟨by decide +kernel, rfl⟩) ?_
    refine J_iald (show Dc Y_X12_unlike 114 (.iaload) 1 115 from ⟨by decide +kernel, rfl⟩) (fun v3 => ?_)
    refine J_callSi (fun r => r) (fun _ => g) (show Dc Y_X12_unlike 115 (.invokestatic 345) 3 118 from ⟨by decide +kernel, rfl⟩) w_m_RX12_345 w_st_X12_spotOf w_cw_X12_spotOf (c_X12_spotOf N v1 x4 v3 g) rfl rfl (by decide) (Nat.le_of_ble_eq_true rfl) (by decide) (by decide) (fun v4 => ?_)
    refine J_istore [some (.ref x0), none, none, some (.int x3), some (.int x4), some (.int x5), some (.int x6), some (.int x7), some (.int x8), some (.int x9), some (.int v4)] (show Dc Y_X12_unlike 118 (.istore 10) 2 120 from ⟨by decide +kernel, rfl⟩) (by decide) rfl rfl ?_
    refine J_iload rfl (show Dc Y_X12_unlike 120 (.iload 6) 2 122 from ⟨by decide +kernel, rfl⟩) ?_
    refine J_iload rfl (show Dc Y_X12_unlike 122 (.iload 10) 2 124 from ⟨by decide +kernel, rfl⟩) ?_
    refine J_iconst (-1 : Int32) rfl (show Dc Y_X12_unlike 124 (.iconst (-1)) 1 125 from ⟨by decide +kernel, rfl⟩) ?_
    refine J_icmp_eq (tg := 139) (show Dc Y_X12_unlike 125 (.if_icmp .eq 14) 3 128 from ⟨by decide +kernel, rfl⟩) (by decide) (fun h => ?_) (fun h => ?_)
    · refine J_mask [true, false, false, true, true, true, false, true, true, true, false] ?_
      exact j_X12_unlike_139 N x0 x3 x4 x5 x7 x8 x9 x6 g h0 hL54 hL96
    · refine J_iload rfl (show Dc Y_X12_unlike 128 (.iload 10) 2 130 from ⟨by decide +kernel, rfl⟩) ?_
      refine J_iload rfl (show Dc Y_X12_unlike 130 (.iload 8) 2 132 from ⟨by decide +kernel, rfl⟩) ?_
      refine J_icmp_ge (tg := 139) (show Dc Y_X12_unlike 132 (.if_icmp .ge 7) 3 135 from ⟨by decide +kernel, rfl⟩) (by decide) (fun h => ?_) (fun h => ?_)
      · refine J_mask [true, false, false, true, true, true, false, true, true, true, false] ?_
        exact j_X12_unlike_139 N x0 x3 x4 x5 x7 x8 x9 x6 g h0 hL54 hL96
      · refine J_iconst (1 : Int32) rfl (show Dc Y_X12_unlike 135 (.iconst 1) 1 136 from ⟨by decide +kernel, rfl⟩) ?_
        refine J_goto (tg := 140) (show Dc Y_X12_unlike 136 (.goto 4) 3 139 from ⟨by decide +kernel, rfl⟩) (by decide) ?_
        refine J_mask [true, false, false, true, true, true, false, true, true, true, false] ?_
        exact j_X12_unlike_140 N x0 x3 x4 x5 x7 x8 x9 x6 (1 : Int32) g h0 hL54 hL96

theorem j_X12_unlike_54 {X : ZX} (N : Nat) (x0 : Nat) (x3 : Int32) (x4 : Int32) (x5 : Int32) (x6 : Int32) (x7 : Int32)   (g : ZS) {K : ((Int32 × Int32 × Int32) ⊕ (Int32 × ZS)) → Prop} (h0 : ∀ v g, K (.inr (v, g)) → xK X (some (.int v)) g) (hL54 : ∀ s, K (.inl s) → zG Y_X12_unlike X 0 0 54 [some (.ref x0), none, none, some (.int x3), some (.int x4), some (.int s.1), some (.int s.2.1), some (.int s.2.2), none, none, none] [] g) : J Y_X12_unlike X 0 0 54 [some (.ref x0), none, none, some (.int x3), some (.int x4), some (.int x5), some (.int x6), some (.int x7), none, none, none] [] g (f_X12_unlike_54 N x0 x3 x4 x5 x6 x7 g) K := by
  unfold f_X12_unlike_54
  refine J_iload rfl (show Dc Y_X12_unlike 54 (.iload 7) 2 56 from ⟨by decide +kernel, rfl⟩) ?_
  refine J_iload_n rfl rfl (show Dc Y_X12_unlike 56 (.iload_n 3) 1 57 from ⟨by decide +kernel, rfl⟩) ?_
  refine J_icmp_ge (tg := 155) (show Dc Y_X12_unlike 57 (.if_icmp .ge 98) 3 60 from ⟨by decide +kernel, rfl⟩) (by decide) (fun h => ?_) (fun h => ?_)
  · refine J_map (f := Sum.inr) (fun _ h => h) ?_
    refine J_aload_n rfl rfl (show Dc Y_X12_unlike 155 (.aload_n 0) 1 156 from ⟨by decide +kernel, rfl⟩) ?_
    refine J_iconst (0 : Int32) rfl (show Dc Y_X12_unlike 156 (.iconst 0) 1 157 from ⟨by decide +kernel, rfl⟩) ?_
    refine J_putI (show Dc Y_X12_unlike 157 (.putfield 113) 3 160 from ⟨by decide +kernel, rfl⟩) w_f_RX12_113 rfl rfl (fun g1 => ?_) (fun h => by cases h)
    refine J_aload_n rfl rfl (show Dc Y_X12_unlike 160 (.aload_n 0) 1 161 from ⟨by decide +kernel, rfl⟩) ?_
    refine J_iload rfl (show Dc Y_X12_unlike 161 (.iload 5) 2 163 from ⟨by decide +kernel, rfl⟩) ?_
    refine J_i2l (show Dc Y_X12_unlike 163 (.i2l) 1 164 from ⟨by decide +kernel, rfl⟩) ?_
    refine J_callVv (fun r => r) (show Dc Y_X12_unlike 164 (.invokevirtual 274) 3 167 from ⟨by decide +kernel, rfl⟩) w_m_RX12_274 w_in_X12_tell rfl w_se_X12_tell w_cw_X12_tell (c_X12_tell x0 x5.toInt64 g1) rfl rfl (by decide) (Nat.le_of_ble_eq_true rfl) (by decide) (by decide) (fun g2 => ?_)
    refine J_iload rfl (show Dc Y_X12_unlike 167 (.iload 6) 2 169 from ⟨by decide +kernel, rfl⟩) ?_
    exact J_reti (show Dc Y_X12_unlike 169 (.ireturn) 1 170 from ⟨by decide +kernel, rfl⟩) rfl (h0 _ _) (by decide) (by decide)
  · refine J_aload_n rfl rfl (show Dc Y_X12_unlike 60 (.aload_n 0) 1 61 from ⟨by decide +kernel, rfl⟩) ?_
    refine J_getR (show Dc Y_X12_unlike 61 (.getfield 48) 3 64 from ⟨by decide +kernel, rfl⟩) w_f_RX12_48 rfl (fun v3 => ?_)
    refine J_iload rfl (show Dc Y_X12_unlike 64 (.iload 4) 2 66 from ⟨by decide +kernel, rfl⟩) ?_
    refine J_aload_n rfl rfl (show Dc Y_X12_unlike 66 (.aload_n 0) 1 67 from ⟨by decide +kernel, rfl⟩) ?_
    refine J_getR (show Dc Y_X12_unlike 67 (.getfield 45) 3 70 from ⟨by decide +kernel, rfl⟩) w_f_RX12_45 rfl (fun v4 => ?_)
    refine J_iload rfl (show Dc Y_X12_unlike 70 (.iload 7) 2 72 from ⟨by decide +kernel, rfl⟩) ?_
    refine J_iald (show Dc Y_X12_unlike 72 (.iaload) 1 73 from ⟨by decide +kernel, rfl⟩) (fun v5 => ?_)
    refine J_callSi (fun r => r) (fun _ => g) (show Dc Y_X12_unlike 73 (.invokestatic 345) 3 76 from ⟨by decide +kernel, rfl⟩) w_m_RX12_345 w_st_X12_spotOf w_cw_X12_spotOf (c_X12_spotOf N v3 x4 v5 g) rfl rfl (by decide) (Nat.le_of_ble_eq_true rfl) (by decide) (by decide) (fun v6 => ?_)
    refine J_istore [some (.ref x0), none, none, some (.int x3), some (.int x4), some (.int x5), some (.int x6), some (.int x7), some (.int v6), none, none] (show Dc Y_X12_unlike 76 (.istore 8) 2 78 from ⟨by decide +kernel, rfl⟩) (by decide) rfl rfl ?_
    refine J_iload rfl (show Dc Y_X12_unlike 78 (.iload 8) 2 80 from ⟨by decide +kernel, rfl⟩) ?_
    refine J_iconst (-1 : Int32) rfl (show Dc Y_X12_unlike 80 (.iconst (-1)) 1 81 from ⟨by decide +kernel, rfl⟩) ?_
    refine J_icmp_ne (tg := 87) (show Dc Y_X12_unlike 81 (.if_icmp .ne 6) 3 84 from ⟨by decide +kernel, rfl⟩) (by decide) (fun h => ?_) (fun h => ?_)
    · refine J_iinc (1 : Int32) [some (.ref x0), none, none, some (.int x3), some (.int x4), some (.int (x5 + (1 : Int32))), some (.int x6), some (.int x7), some (.int v6), none, none] (show Dc Y_X12_unlike 87 (.iinc 5 1) 3 90 from ⟨by decide +kernel, rfl⟩) rfl rfl (by decide) rfl rfl ?_
      refine J_iload rfl (show Dc Y_X12_unlike 90 (.iload 7) 2 92 from ⟨by decide +kernel, rfl⟩) ?_
      refine J_iconst (1 : Int32) rfl (show Dc Y_X12_unlike 92 (.iconst 1) 1 93 from ⟨by decide +kernel, rfl⟩) ?_
      refine J_iadd (show Dc Y_X12_unlike 93 (.iadd) 1 94 from ⟨by decide +kernel, rfl⟩) ?_
      refine J_istore [some (.ref x0), none, none, some (.int x3), some (.int x4), some (.int (x5 + (1 : Int32))), some (.int x6), some (.int x7), some (.int v6), some (.int (x7 + (1 : Int32))), none] (show Dc Y_X12_unlike 94 (.istore 9) 2 96 from ⟨by decide +kernel, rfl⟩) (by decide) rfl rfl ?_
      exact J_loop (X := X) (K := K) (uc := fun _ => 0) (us := fun _ => 0) (lf := fun s => [some (.ref x0), none, none, some (.int x3), some (.int x4), some (.int (x5 + (1 : Int32))), some (.int s.1), some (.int x7), some (.int v6), some (.int s.2), none]) (gf := fun s => g) (fun s => j_X12_unlike_96 (K := zKl Y_X12_unlike X 96 (fun _ => 0) (fun _ => 0) (fun s => [some (.ref x0), none, none, some (.int x3), some (.int x4), some (.int (x5 + (1 : Int32))), some (.int s.1), some (.int x7), some (.int v6), some (.int s.2), none]) (fun s => g) K) N x0 x3 x4 (x5 + (1 : Int32)) s.1 x7 v6 s.2 g h0 hL54 (fun s h => h)) N (x6, x7 + (1 : Int32))
    · refine J_goto (tg := 149) (show Dc Y_X12_unlike 84 (.goto 65) 3 87 from ⟨by decide +kernel, rfl⟩) (by decide) ?_
      refine J_mask [true, false, false, true, true, true, true, true, false, false, false] ?_
      exact j_X12_unlike_149 N x0 x3 x4 x5 x6 x7 g h0 hL54

theorem j_X12_unlike {X : ZX} (N : Nat) (x0 : Nat) (x1 : Int32) (x2 : Int32)   (g : ZS) {K : (Int32 × ZS) → Prop} (h0 : ∀ v g, K (v, g) → xK X (some (.int v)) g) : J Y_X12_unlike X 0 0 0 [some (.ref x0), some (.int x1), some (.int x2), none, none, none, none, none, none, none, none] [] g (f_X12_unlike N x0 x1 x2 g) K := by
  unfold f_X12_unlike
  refine J_aload_n rfl rfl (show Dc Y_X12_unlike 0 (.aload_n 0) 1 1 from ⟨by decide +kernel, rfl⟩) ?_
  refine J_iconst (0 : Int32) rfl (show Dc Y_X12_unlike 1 (.iconst 0) 1 2 from ⟨by decide +kernel, rfl⟩) ?_
  refine J_putI (show Dc Y_X12_unlike 2 (.putfield 109) 3 5 from ⟨by decide +kernel, rfl⟩) w_f_RX12_109 rfl rfl (fun g1 => ?_) (fun h => by cases h)
  refine J_aload_n rfl rfl (show Dc Y_X12_unlike 5 (.aload_n 0) 1 6 from ⟨by decide +kernel, rfl⟩) ?_
  refine J_iload_n rfl rfl (show Dc Y_X12_unlike 6 (.iload_n 1) 1 7 from ⟨by decide +kernel, rfl⟩) ?_
  refine J_iload_n rfl rfl (show Dc Y_X12_unlike 7 (.iload_n 2) 1 8 from ⟨by decide +kernel, rfl⟩) ?_
  refine J_callVi (fun r => r) (fun _ => g1) (show Dc Y_X12_unlike 8 (.invokevirtual 342) 3 11 from ⟨by decide +kernel, rfl⟩) w_m_RX12_342 w_in_X12_areTwo rfl w_se_X12_areTwo w_cw_X12_areTwo (c_X12_areTwo x0 x1 x2 g1) rfl rfl (by decide) (Nat.le_of_ble_eq_true rfl) (by decide) (by decide) (fun v2 => ?_)
  refine J_if_ne (tg := 16) (show Dc Y_X12_unlike 11 (.ifCond .ne 5) 3 14 from ⟨by decide +kernel, rfl⟩) (by decide) (fun h => ?_) (fun h => ?_)
  · refine J_aload_n rfl rfl (show Dc Y_X12_unlike 16 (.aload_n 0) 1 17 from ⟨by decide +kernel, rfl⟩) ?_
    refine J_aload_n rfl rfl (show Dc Y_X12_unlike 17 (.aload_n 0) 1 18 from ⟨by decide +kernel, rfl⟩) ?_
    refine J_getR (show Dc Y_X12_unlike 18 (.getfield 9) 3 21 from ⟨by decide +kernel, rfl⟩) w_f_RX12_9 rfl (fun v3 => ?_)
    refine J_iload_n rfl rfl (show Dc Y_X12_unlike 21 (.iload_n 1) 1 22 from ⟨by decide +kernel, rfl⟩) ?_
    refine J_aload_n rfl rfl (show Dc Y_X12_unlike 22 (.aload_n 0) 1 23 from ⟨by decide +kernel, rfl⟩) ?_
    refine J_getR (show Dc Y_X12_unlike 23 (.getfield 45) 3 26 from ⟨by decide +kernel, rfl⟩) w_f_RX12_45 rfl (fun v4 => ?_)
    refine J_callVi (fun r => r.1) (fun r => r.2) (show Dc Y_X12_unlike 26 (.invokevirtual 291) 3 29 from ⟨by decide +kernel, rfl⟩) w_m_RX12_291 w_in_X12_laySays rfl w_se_X12_laySays w_cw_X12_laySays (c_X12_laySays N x0 v3 x1 v4 g1) rfl rfl (by decide) (Nat.le_of_ble_eq_true rfl) (by decide) (by decide) (fun r5 => ?_)
    refine J_istore_n [some (.ref x0), some (.int x1), some (.int x2), some (.int r5.1), none, none, none, none, none, none, none] (show Dc Y_X12_unlike 29 (.istore_n 3) 1 30 from ⟨by decide +kernel, rfl⟩) rfl (by decide) rfl rfl ?_
    refine J_aload_n rfl rfl (show Dc Y_X12_unlike 30 (.aload_n 0) 1 31 from ⟨by decide +kernel, rfl⟩) ?_
    refine J_aload_n rfl rfl (show Dc Y_X12_unlike 31 (.aload_n 0) 1 32 from ⟨by decide +kernel, rfl⟩) ?_
    refine J_getR (show Dc Y_X12_unlike 32 (.getfield 9) 3 35 from ⟨by decide +kernel, rfl⟩) w_f_RX12_9 rfl (fun v6 => ?_)
    refine J_iload_n rfl rfl (show Dc Y_X12_unlike 35 (.iload_n 2) 1 36 from ⟨by decide +kernel, rfl⟩) ?_
    refine J_aload_n rfl rfl (show Dc Y_X12_unlike 36 (.aload_n 0) 1 37 from ⟨by decide +kernel, rfl⟩) ?_
    refine J_getR (show Dc Y_X12_unlike 37 (.getfield 48) 3 40 from ⟨by decide +kernel, rfl⟩) w_f_RX12_48 rfl (fun v7 => ?_)
    refine J_callVi (fun r => r.1) (fun r => r.2) (show Dc Y_X12_unlike 40 (.invokevirtual 291) 3 43 from ⟨by decide +kernel, rfl⟩) w_m_RX12_291 w_in_X12_laySays rfl w_se_X12_laySays w_cw_X12_laySays (c_X12_laySays N x0 v6 x2 v7 r5.2) rfl rfl (by decide) (Nat.le_of_ble_eq_true rfl) (by decide) (by decide) (fun r8 => ?_)
    refine J_istore [some (.ref x0), some (.int x1), some (.int x2), some (.int r5.1), some (.int r8.1), none, none, none, none, none, none] (show Dc Y_X12_unlike 43 (.istore 4) 2 45 from ⟨by decide +kernel, rfl⟩) (by decide) rfl rfl ?_
    refine J_iconst (0 : Int32) rfl (show Dc Y_X12_unlike 45 (.iconst 0) 1 46 from ⟨by decide +kernel, rfl⟩) ?_
    refine J_istore [some (.ref x0), some (.int x1), some (.int x2), some (.int r5.1), some (.int r8.1), some (.int (0 : Int32)), none, none, none, none, none] (show Dc Y_X12_unlike 46 (.istore 5) 2 48 from ⟨by decide +kernel, rfl⟩) (by decide) rfl rfl ?_
    refine J_iconst (0 : Int32) rfl (show Dc Y_X12_unlike 48 (.iconst 0) 1 49 from ⟨by decide +kernel, rfl⟩) ?_
    refine J_istore [some (.ref x0), some (.int x1), some (.int x2), some (.int r5.1), some (.int r8.1), some (.int (0 : Int32)), some (.int (0 : Int32)), none, none, none, none] (show Dc Y_X12_unlike 49 (.istore 6) 2 51 from ⟨by decide +kernel, rfl⟩) (by decide) rfl rfl ?_
    refine J_iconst (0 : Int32) rfl (show Dc Y_X12_unlike 51 (.iconst 0) 1 52 from ⟨by decide +kernel, rfl⟩) ?_
    refine J_istore [some (.ref x0), some (.int x1), some (.int x2), some (.int r5.1), some (.int r8.1), some (.int (0 : Int32)), some (.int (0 : Int32)), some (.int (0 : Int32)), none, none, none] (show Dc Y_X12_unlike 52 (.istore 7) 2 54 from ⟨by decide +kernel, rfl⟩) (by decide) rfl rfl ?_
    refine J_mask [true, false, false, true, true, true, true, true, false, false, false] ?_
    exact J_loop (X := X) (K := K) (uc := fun _ => 0) (us := fun _ => 0) (lf := fun s => [some (.ref x0), none, none, some (.int r5.1), some (.int r8.1), some (.int s.1), some (.int s.2.1), some (.int s.2.2), none, none, none]) (gf := fun s => r8.2) (fun s => j_X12_unlike_54 (K := zKl Y_X12_unlike X 54 (fun _ => 0) (fun _ => 0) (fun s => [some (.ref x0), none, none, some (.int r5.1), some (.int r8.1), some (.int s.1), some (.int s.2.1), some (.int s.2.2), none, none, none]) (fun s => r8.2) K) N x0 r5.1 r8.1 s.1 s.2.1 s.2.2 r8.2 h0 (fun s h => h)) N ((0 : Int32), (0 : Int32), (0 : Int32))
  · refine J_iconst (-1 : Int32) rfl (show Dc Y_X12_unlike 14 (.iconst (-1)) 1 15 from ⟨by decide +kernel, rfl⟩) ?_
    exact J_reti (show Dc Y_X12_unlike 15 (.ireturn) 1 16 from ⟨by decide +kernel, rfl⟩) rfl (h0 _ _) (by decide) (by decide)

theorem c_X12_unlike {l : Launch} {D : ZD} {B0 : Nat} (N : Nat) (x0 : Nat) (x1 : Int32) (x2 : Int32) (g : ZS) : ∀ r, f_X12_unlike N x0 x1 x2 g = some r → zCt l D B0 yX12_unlike Y_X12_unlike [.ref x0, .int x1, .int x2] g (some (.int r.1)) r.2 :=
  zCt_ofF (vo := fun r => some (.int r.1)) (so := fun r => r.2) (by decide +kernel) rfl (fun h => by cases h) rfl (Nat.le_of_ble_eq_true rfl) (fun X => j_X12_unlike N x0 x1 x2 g (fun _ _ h => h))

theorem j_X12_clash_20 {X : ZX} (N : Nat) (x0 : Nat) (x1 : Int32) (x2 : Int32)   (g : ZS) {K : ((Int32 × ZS) ⊕ ((Int32 × ZS) ⊕ (Int32 × ZS))) → Prop} (h0 : ∀ v g, K (.inr (.inr (v, g))) → xK X (some (.int v)) g) (hL12 : ∀ s, K (.inr (.inl s)) → zG Y_X12_clash X 0 0 12 [some (.ref x0), some (.int s.1), none] [] s.2) (hL20 : ∀ s, K (.inl s) → zG Y_X12_clash X 0 0 20 [some (.ref x0), some (.int x1), some (.int s.1)] [] s.2) : J Y_X12_clash X 0 0 20 [some (.ref x0), some (.int x1), some (.int x2)] [] g (f_X12_clash_20 N x0 x1 x2 g) K := by
  unfold f_X12_clash_20
  refine J_iload_n rfl rfl (show Dc Y_X12_clash 20 (.iload_n 2) 1 21 from ⟨by decide +kernel, rfl⟩) ?_
  refine J_bipush (8 : Int32) rfl (show Dc Y_X12_clash 21 (.bipush 8) 2 23 from ⟨by decide +kernel, rfl⟩) ?_
  refine J_icmp_ge (tg := 65) (show Dc Y_X12_clash 23 (.if_icmp .ge 42) 3 26 from ⟨by decide +kernel, rfl⟩) (by decide) (fun h => ?_) (fun h => ?_)
  · refine J_map (f := Sum.inr) (fun _ h => h) ?_
    refine J_iinc (1 : Int32) [some (.ref x0), some (.int (x1 + (1 : Int32))), some (.int x2)] (show Dc Y_X12_clash 65 (.iinc 1 1) 3 68 from ⟨by decide +kernel, rfl⟩) rfl rfl (by decide) rfl rfl ?_
    refine J_goto (tg := 12) (show Dc Y_X12_clash 68 (.goto (-56)) 3 71 from ⟨by decide +kernel, rfl⟩) (by decide) ?_
    refine J_mask [true, true, false] ?_
    exact J_leaf (fun h => hL12 (x1 + (1 : Int32), g) h)
  · refine J_aload_n rfl rfl (show Dc Y_X12_clash 26 (.aload_n 0) 1 27 from ⟨by decide +kernel, rfl⟩) ?_
    refine J_getR (show Dc Y_X12_clash 27 (.getfield 72) 3 30 from ⟨by decide +kernel, rfl⟩) w_f_RX12_72 rfl (fun v1 => ?_)
    refine J_iconst (0 : Int32) rfl (show Dc Y_X12_clash 30 (.iconst 0) 1 31 from ⟨by decide +kernel, rfl⟩) ?_
    refine J_iload_n rfl rfl (show Dc Y_X12_clash 31 (.iload_n 2) 1 32 from ⟨by decide +kernel, rfl⟩) ?_
    refine J_iast (show Dc Y_X12_clash 32 (.iastore) 1 33 from ⟨by decide +kernel, rfl⟩) (fun g2 => ?_)
    refine J_aload_n rfl rfl (show Dc Y_X12_clash 33 (.aload_n 0) 1 34 from ⟨by decide +kernel, rfl⟩) ?_
    refine J_iconst (1 : Int32) rfl (show Dc Y_X12_clash 34 (.iconst 1) 1 35 from ⟨by decide +kernel, rfl⟩) ?_
    refine J_iload_n rfl rfl (show Dc Y_X12_clash 35 (.iload_n 1) 1 36 from ⟨by decide +kernel, rfl⟩) ?_
    refine J_iconst (1 : Int32) rfl (show Dc Y_X12_clash 36 (.iconst 1) 1 37 from ⟨by decide +kernel, rfl⟩) ?_
    refine J_iload_n rfl rfl (show Dc Y_X12_clash 37 (.iload_n 2) 1 38 from ⟨by decide +kernel, rfl⟩) ?_
    refine J_ishl (show Dc Y_X12_clash 38 (.ishl) 1 39 from ⟨by decide +kernel, rfl⟩) ?_
    refine J_callVi (fun r => r.1) (fun r => r.2) (show Dc Y_X12_clash 39 (.invokevirtual 354) 3 42 from ⟨by decide +kernel, rfl⟩) w_m_RX12_354 w_in_X12_goRing rfl w_se_X12_goRing (w_cw_X12_goRing _) (c_X12_goRing N x0 (1 : Int32) x1 ((1 : Int32) <<< (x2 &&& 31)) g2) rfl rfl (by decide) (Nat.le_of_ble_eq_true rfl) (by decide) (by decide) (fun r3 => ?_)
    refine J_if_ne (tg := 48) (show Dc Y_X12_clash 42 (.ifCond .ne 6) 3 45 from ⟨by decide +kernel, rfl⟩) (by decide) (fun h => ?_) (fun h => ?_)
    · refine J_map (f := Sum.inr) (fun _ h => h) ?_
      refine J_map (f := Sum.inr) (fun _ h => h) ?_
      refine J_aload_n rfl rfl (show Dc Y_X12_clash 48 (.aload_n 0) 1 49 from ⟨by decide +kernel, rfl⟩) ?_
      refine J_aload_n rfl rfl (show Dc Y_X12_clash 49 (.aload_n 0) 1 50 from ⟨by decide +kernel, rfl⟩) ?_
      refine J_getR (show Dc Y_X12_clash 50 (.getfield 72) 3 53 from ⟨by decide +kernel, rfl⟩) w_f_RX12_72 rfl (fun v4 => ?_)
      refine J_iload_n rfl rfl (show Dc Y_X12_clash 53 (.iload_n 1) 1 54 from ⟨by decide +kernel, rfl⟩) ?_
      refine J_callVv (fun r => r) (show Dc Y_X12_clash 54 (.invokevirtual 313) 3 57 from ⟨by decide +kernel, rfl⟩) w_m_RX12_313 w_in_X12_tellList rfl w_se_X12_tellList w_cw_X12_tellList (c_X12_tellList N x0 v4 x1 r3.2) rfl rfl (by decide) (Nat.le_of_ble_eq_true rfl) (by decide) (by decide) (fun g5 => ?_)
      refine J_iload_n rfl rfl (show Dc Y_X12_clash 57 (.iload_n 1) 1 58 from ⟨by decide +kernel, rfl⟩) ?_
      exact J_reti (show Dc Y_X12_clash 58 (.ireturn) 1 59 from ⟨by decide +kernel, rfl⟩) rfl (h0 _ _) (by decide) (by decide)
    · refine J_goto (tg := 59) (show Dc Y_X12_clash 45 (.goto 14) 3 48 from ⟨by decide +kernel, rfl⟩) (by decide) ?_
      refine J_iinc (1 : Int32) [some (.ref x0), some (.int x1), some (.int (x2 + (1 : Int32)))] (show Dc Y_X12_clash 59 (.iinc 2 1) 3 62 from ⟨by decide +kernel, rfl⟩) rfl rfl (by decide) rfl rfl ?_
      refine J_goto (tg := 20) (show Dc Y_X12_clash 62 (.goto (-42)) 3 65 from ⟨by decide +kernel, rfl⟩) (by decide) ?_
      exact J_leaf (fun h => hL20 (x2 + (1 : Int32), r3.2) h)

theorem j_X12_clash_12 {X : ZX} (N : Nat) (x0 : Nat) (x1 : Int32)   (g : ZS) {K : ((Int32 × ZS) ⊕ (Int32 × ZS)) → Prop} (h0 : ∀ v g, K (.inr (v, g)) → xK X (some (.int v)) g) (hL12 : ∀ s, K (.inl s) → zG Y_X12_clash X 0 0 12 [some (.ref x0), some (.int s.1), none] [] s.2) : J Y_X12_clash X 0 0 12 [some (.ref x0), some (.int x1), none] [] g (f_X12_clash_12 N x0 x1 g) K := by
  unfold f_X12_clash_12
  refine J_iload_n rfl rfl (show Dc Y_X12_clash 12 (.iload_n 1) 1 13 from ⟨by decide +kernel, rfl⟩) ?_
  refine J_bipush (8 : Int32) rfl (show Dc Y_X12_clash 13 (.bipush 8) 2 15 from ⟨by decide +kernel, rfl⟩) ?_
  refine J_icmp_gt (tg := 71) (show Dc Y_X12_clash 15 (.if_icmp .gt 56) 3 18 from ⟨by decide +kernel, rfl⟩) (by decide) (fun h => ?_) (fun h => ?_)
  · refine J_map (f := Sum.inr) (fun _ h => h) ?_
    refine J_bipush (-2 : Int32) rfl (show Dc Y_X12_clash 71 (.bipush (-2)) 2 73 from ⟨by decide +kernel, rfl⟩) ?_
    exact J_reti (show Dc Y_X12_clash 73 (.ireturn) 1 74 from ⟨by decide +kernel, rfl⟩) rfl (h0 _ _) (by decide) (by decide)
  · refine J_iconst (0 : Int32) rfl (show Dc Y_X12_clash 18 (.iconst 0) 1 19 from ⟨by decide +kernel, rfl⟩) ?_
    refine J_istore_n [some (.ref x0), some (.int x1), some (.int (0 : Int32))] (show Dc Y_X12_clash 19 (.istore_n 2) 1 20 from ⟨by decide +kernel, rfl⟩) rfl (by decide) rfl rfl ?_
    exact J_loop (X := X) (K := K) (uc := fun _ => 0) (us := fun _ => 0) (lf := fun s => [some (.ref x0), some (.int x1), some (.int s.1)]) (gf := fun s => s.2) (fun s => j_X12_clash_20 (K := zKl Y_X12_clash X 20 (fun _ => 0) (fun _ => 0) (fun s => [some (.ref x0), some (.int x1), some (.int s.1)]) (fun s => s.2) K) N x0 x1 s.1 s.2 h0 hL12 (fun s h => h)) N ((0 : Int32), g)

theorem j_X12_clash {X : ZX} (N : Nat) (x0 : Nat)   (g : ZS) {K : (Int32 × ZS) → Prop} (h0 : ∀ v g, K (v, g) → xK X (some (.int v)) g) : J Y_X12_clash X 0 0 0 [some (.ref x0), none, none] [] g (f_X12_clash N x0 g) K := by
  unfold f_X12_clash
  refine J_aload_n rfl rfl (show Dc Y_X12_clash 0 (.aload_n 0) 1 1 from ⟨by decide +kernel, rfl⟩) ?_
  refine J_iconst (0 : Int32) rfl (show Dc Y_X12_clash 1 (.iconst 0) 1 2 from ⟨by decide +kernel, rfl⟩) ?_
  refine J_putI (show Dc Y_X12_clash 2 (.putfield 109) 3 5 from ⟨by decide +kernel, rfl⟩) w_f_RX12_109 rfl rfl (fun g1 => ?_) (fun h => by cases h)
  refine J_aload_n rfl rfl (show Dc Y_X12_clash 5 (.aload_n 0) 1 6 from ⟨by decide +kernel, rfl⟩) ?_
  refine J_iconst (0 : Int32) rfl (show Dc Y_X12_clash 6 (.iconst 0) 1 7 from ⟨by decide +kernel, rfl⟩) ?_
  refine J_callVv (fun r => r) (show Dc Y_X12_clash 7 (.invokevirtual 357) 3 10 from ⟨by decide +kernel, rfl⟩) w_m_RX12_357 w_in_X12_layBehind rfl w_se_X12_layBehind w_cw_X12_layBehind (c_X12_layBehind N x0 (0 : Int32) g1) rfl rfl (by decide) (Nat.le_of_ble_eq_true rfl) (by decide) (by decide) (fun g2 => ?_)
  refine J_iconst (2 : Int32) rfl (show Dc Y_X12_clash 10 (.iconst 2) 1 11 from ⟨by decide +kernel, rfl⟩) ?_
  refine J_istore_n [some (.ref x0), some (.int (2 : Int32)), none] (show Dc Y_X12_clash 11 (.istore_n 1) 1 12 from ⟨by decide +kernel, rfl⟩) rfl (by decide) rfl rfl ?_
  exact J_loop (X := X) (K := K) (uc := fun _ => 0) (us := fun _ => 0) (lf := fun s => [some (.ref x0), some (.int s.1), none]) (gf := fun s => s.2) (fun s => j_X12_clash_12 (K := zKl Y_X12_clash X 12 (fun _ => 0) (fun _ => 0) (fun s => [some (.ref x0), some (.int s.1), none]) (fun s => s.2) K) N x0 s.1 s.2 h0 (fun s h => h)) N ((2 : Int32), g2)

theorem c_X12_clash {l : Launch} {D : ZD} {B0 : Nat} (N : Nat) (x0 : Nat) (g : ZS) : ∀ r, f_X12_clash N x0 g = some r → zCt l D B0 yX12_clash Y_X12_clash [.ref x0] g (some (.int r.1)) r.2 :=
  zCt_ofF (vo := fun r => some (.int r.1)) (so := fun r => r.2) (by decide +kernel) rfl (fun h => by cases h) rfl (Nat.le_of_ble_eq_true rfl) (fun X => j_X12_clash N x0 g (fun _ _ h => h))

theorem j_X12_counsels_182 {X : ZX} (N : Nat) (x0 : Nat) (x2 : Int32) (x4 : Int32) (x5 : Int32) (s0 : Int32)  (g : ZS) {K : ((Int32 × Int32 × ZS) ⊕ ((Int32 × Int32 × ZS) ⊕ (Int32 × ZS))) → Prop} (h0 : ∀ v g, K (.inr (.inr (v, g))) → xK X (some (.int v)) g) (hL63 : ∀ s, K (.inr (.inl s)) → zG Y_X12_counsels X 0 0 63 [some (.ref x0), none, some (.int x2), some (.int s.1), some (.int s.2.1), none, none, none, none] [] s.2.2) (hL72 : ∀ s, K (.inl s) → zG Y_X12_counsels X 0 0 72 [some (.ref x0), none, some (.int x2), some (.int s.1), some (.int x4), some (.int s.2.1), none, none, none] [] s.2.2) : J Y_X12_counsels X 0 0 182 [some (.ref x0), none, some (.int x2), none, some (.int x4), some (.int x5), none, none, none] [.int s0] g (f_X12_counsels_182 N x0 x2 x4 x5 s0 g) K := by
  unfold f_X12_counsels_182
  refine J_istore_n [some (.ref x0), none, some (.int x2), some (.int s0), some (.int x4), some (.int x5), none, none, none] (show Dc Y_X12_counsels 182 (.istore_n 3) 1 183 from ⟨by decide +kernel, rfl⟩) rfl (by decide) rfl rfl ?_
  refine J_iinc (1 : Int32) [some (.ref x0), none, some (.int x2), some (.int s0), some (.int x4), some (.int (x5 + (1 : Int32))), none, none, none] (show Dc Y_X12_counsels 183 (.iinc 5 1) 3 186 from ⟨by decide +kernel, rfl⟩) rfl rfl (by decide) rfl rfl ?_
  refine J_goto (tg := 72) (show Dc Y_X12_counsels 186 (.goto (-114)) 3 189 from ⟨by decide +kernel, rfl⟩) (by decide) ?_
  exact J_leaf (fun h => hL72 (s0, x5 + (1 : Int32), g) h)

theorem j_X12_counsels_72 {X : ZX} (N : Nat) (x0 : Nat) (x2 : Int32) (x3 : Int32) (x4 : Int32) (x5 : Int32)   (g : ZS) {K : ((Int32 × Int32 × ZS) ⊕ ((Int32 × Int32 × ZS) ⊕ (Int32 × ZS))) → Prop} (h0 : ∀ v g, K (.inr (.inr (v, g))) → xK X (some (.int v)) g) (hL63 : ∀ s, K (.inr (.inl s)) → zG Y_X12_counsels X 0 0 63 [some (.ref x0), none, some (.int x2), some (.int s.1), some (.int s.2.1), none, none, none, none] [] s.2.2) (hL72 : ∀ s, K (.inl s) → zG Y_X12_counsels X 0 0 72 [some (.ref x0), none, some (.int x2), some (.int s.1), some (.int x4), some (.int s.2.1), none, none, none] [] s.2.2) : J Y_X12_counsels X 0 0 72 [some (.ref x0), none, some (.int x2), some (.int x3), some (.int x4), some (.int x5), none, none, none] [] g (f_X12_counsels_72 N x0 x2 x3 x4 x5 g) K := by
  unfold f_X12_counsels_72
  refine J_iload rfl (show Dc Y_X12_counsels 72 (.iload 5) 2 74 from ⟨by decide +kernel, rfl⟩) ?_
  refine J_iload rfl (show Dc Y_X12_counsels 74 (.iload 4) 2 76 from ⟨by decide +kernel, rfl⟩) ?_
  refine J_iadd (show Dc Y_X12_counsels 76 (.iadd) 1 77 from ⟨by decide +kernel, rfl⟩) ?_
  refine J_iload_n rfl rfl (show Dc Y_X12_counsels 77 (.iload_n 2) 1 78 from ⟨by decide +kernel, rfl⟩) ?_
  refine J_icmp_gt (tg := 189) (show Dc Y_X12_counsels 78 (.if_icmp .gt 111) 3 81 from ⟨by decide +kernel, rfl⟩) (by decide) (fun h => ?_) (fun h => ?_)
  · refine J_map (f := Sum.inr) (fun _ h => h) ?_
    refine J_iinc (1 : Int32) [some (.ref x0), none, some (.int x2), some (.int x3), some (.int (x4 + (1 : Int32))), some (.int x5), none, none, none] (show Dc Y_X12_counsels 189 (.iinc 4 1) 3 192 from ⟨by decide +kernel, rfl⟩) rfl rfl (by decide) rfl rfl ?_
    refine J_goto (tg := 63) (show Dc Y_X12_counsels 192 (.goto (-129)) 3 195 from ⟨by decide +kernel, rfl⟩) (by decide) ?_
    refine J_mask [true, false, true, true, true, false, false, false, false] ?_
    exact J_leaf (fun h => hL63 (x3, x4 + (1 : Int32), g) h)
  · refine J_iload rfl (show Dc Y_X12_counsels 81 (.iload 5) 2 83 from ⟨by decide +kernel, rfl⟩) ?_
    refine J_iload rfl (show Dc Y_X12_counsels 83 (.iload 4) 2 85 from ⟨by decide +kernel, rfl⟩) ?_
    refine J_iadd (show Dc Y_X12_counsels 85 (.iadd) 1 86 from ⟨by decide +kernel, rfl⟩) ?_
    refine J_istore [some (.ref x0), none, some (.int x2), some (.int x3), some (.int x4), some (.int x5), some (.int (x5 + x4)), none, none] (show Dc Y_X12_counsels 86 (.istore 6) 2 88 from ⟨by decide +kernel, rfl⟩) (by decide) rfl rfl ?_
    refine J_aload_n rfl rfl (show Dc Y_X12_counsels 88 (.aload_n 0) 1 89 from ⟨by decide +kernel, rfl⟩) ?_
    refine J_getR (show Dc Y_X12_counsels 89 (.getfield 16) 3 92 from ⟨by decide +kernel, rfl⟩) w_f_RX12_16 rfl (fun v1 => ?_)
    refine J_aload_n rfl rfl (show Dc Y_X12_counsels 92 (.aload_n 0) 1 93 from ⟨by decide +kernel, rfl⟩) ?_
    refine J_getR (show Dc Y_X12_counsels 93 (.getfield 45) 3 96 from ⟨by decide +kernel, rfl⟩) w_f_RX12_45 rfl (fun v2 => ?_)
    refine J_iload rfl (show Dc Y_X12_counsels 96 (.iload 5) 2 98 from ⟨by decide +kernel, rfl⟩) ?_
    refine J_iald (show Dc Y_X12_counsels 98 (.iaload) 1 99 from ⟨by decide +kernel, rfl⟩) (fun v3 => ?_)
    refine J_iald (show Dc Y_X12_counsels 99 (.iaload) 1 100 from ⟨by decide +kernel, rfl⟩) (fun v4 => ?_)
    refine J_aload_n rfl rfl (show Dc Y_X12_counsels 100 (.aload_n 0) 1 101 from ⟨by decide +kernel, rfl⟩) ?_
    refine J_getR (show Dc Y_X12_counsels 101 (.getfield 87) 3 104 from ⟨by decide +kernel, rfl⟩) w_f_RX12_87 rfl (fun v5 => ?_)
    refine J_bipush (9 : Int32) rfl (show Dc Y_X12_counsels 104 (.bipush 9) 2 106 from ⟨by decide +kernel, rfl⟩) ?_
    refine J_iload rfl (show Dc Y_X12_counsels 106 (.iload 5) 2 108 from ⟨by decide +kernel, rfl⟩) ?_
    refine J_iconst (1 : Int32) rfl (show Dc Y_X12_counsels 108 (.iconst 1) 1 109 from ⟨by decide +kernel, rfl⟩) ?_
    refine J_iadd (show Dc Y_X12_counsels 109 (.iadd) 1 110 from ⟨by decide +kernel, rfl⟩) ?_
    refine J_imul (show Dc Y_X12_counsels 110 (.imul) 1 111 from ⟨by decide +kernel, rfl⟩) ?_
    refine J_iload rfl (show Dc Y_X12_counsels 111 (.iload 6) 2 113 from ⟨by decide +kernel, rfl⟩) ?_
    refine J_iadd (show Dc Y_X12_counsels 113 (.iadd) 1 114 from ⟨by decide +kernel, rfl⟩) ?_
    refine J_iald (show Dc Y_X12_counsels 114 (.iaload) 1 115 from ⟨by decide +kernel, rfl⟩) (fun v6 => ?_)
    refine J_isub (show Dc Y_X12_counsels 115 (.isub) 1 116 from ⟨by decide +kernel, rfl⟩) ?_
    refine J_istore [some (.ref x0), none, some (.int x2), some (.int x3), some (.int x4), some (.int x5), some (.int (x5 + x4)), some (.int (v4 - v6)), none] (show Dc Y_X12_counsels 116 (.istore 7) 2 118 from ⟨by decide +kernel, rfl⟩) (by decide) rfl rfl ?_
    refine J_aload_n rfl rfl (show Dc Y_X12_counsels 118 (.aload_n 0) 1 119 from ⟨by decide +kernel, rfl⟩) ?_
    refine J_getR (show Dc Y_X12_counsels 119 (.getfield 16) 3 122 from ⟨by decide +kernel, rfl⟩) w_f_RX12_16 rfl (fun v7 => ?_)
    refine J_aload_n rfl rfl (show Dc Y_X12_counsels 122 (.aload_n 0) 1 123 from ⟨by decide +kernel, rfl⟩) ?_
    refine J_getR (show Dc Y_X12_counsels 123 (.getfield 45) 3 126 from ⟨by decide +kernel, rfl⟩) w_f_RX12_45 rfl (fun v8 => ?_)
    refine J_iload rfl (show Dc Y_X12_counsels 126 (.iload 6) 2 128 from ⟨by decide +kernel, rfl⟩) ?_
    refine J_iconst (1 : Int32) rfl (show Dc Y_X12_counsels 128 (.iconst 1) 1 129 from ⟨by decide +kernel, rfl⟩) ?_
    refine J_isub (show Dc Y_X12_counsels 129 (.isub) 1 130 from ⟨by decide +kernel, rfl⟩) ?_
    refine J_iald (show Dc Y_X12_counsels 130 (.iaload) 1 131 from ⟨by decide +kernel, rfl⟩) (fun v9 => ?_)
    refine J_iald (show Dc Y_X12_counsels 131 (.iaload) 1 132 from ⟨by decide +kernel, rfl⟩) (fun v10 => ?_)
    refine J_aload_n rfl rfl (show Dc Y_X12_counsels 132 (.aload_n 0) 1 133 from ⟨by decide +kernel, rfl⟩) ?_
    refine J_getR (show Dc Y_X12_counsels 133 (.getfield 87) 3 136 from ⟨by decide +kernel, rfl⟩) w_f_RX12_87 rfl (fun v11 => ?_)
    refine J_bipush (9 : Int32) rfl (show Dc Y_X12_counsels 136 (.bipush 9) 2 138 from ⟨by decide +kernel, rfl⟩) ?_
    refine J_iload rfl (show Dc Y_X12_counsels 138 (.iload 5) 2 140 from ⟨by decide +kernel, rfl⟩) ?_
    refine J_imul (show Dc Y_X12_counsels 140 (.imul) 1 141 from ⟨by decide +kernel, rfl⟩) ?_
    refine J_iload rfl (show Dc Y_X12_counsels 141 (.iload 6) 2 143 from ⟨by decide +kernel, rfl⟩) ?_
    refine J_iadd (show Dc Y_X12_counsels 143 (.iadd) 1 144 from ⟨by decide +kernel, rfl⟩) ?_
    refine J_iconst (1 : Int32) rfl (show Dc Y_X12_counsels 144 (.iconst 1) 1 145 from ⟨by decide +kernel, rfl⟩) ?_
    refine J_isub (show Dc Y_X12_counsels 145 (.isub) 1 146 from ⟨by decide +kernel, rfl⟩) ?_
    refine J_iald (show Dc Y_X12_counsels 146 (.iaload) 1 147 from ⟨by decide +kernel, rfl⟩) (fun v12 => ?_)
    refine J_isub (show Dc Y_X12_counsels 147 (.isub) 1 148 from ⟨by decide +kernel, rfl⟩) ?_
    refine J_istore [some (.ref x0), none, some (.int x2), some (.int x3), some (.int x4), some (.int x5), some (.int (x5 + x4)), some (.int (v4 - v6)), some (.int (v10 - v12))] (show Dc Y_X12_counsels 148 (.istore 8) 2 150 from ⟨by decide +kernel, rfl⟩) (by decide) rfl rfl ?_
    refine J_aload_n rfl rfl (show Dc Y_X12_counsels 150 (.aload_n 0) 1 151 from ⟨by decide +kernel, rfl⟩) ?_
    refine J_getR (show Dc Y_X12_counsels 151 (.getfield 87) 3 154 from ⟨by decide +kernel, rfl⟩) w_f_RX12_87 rfl (fun v13 => ?_)
    refine J_bipush (9 : Int32) rfl (show Dc Y_X12_counsels 154 (.bipush 9) 2 156 from ⟨by decide +kernel, rfl⟩) ?_
    refine J_iload rfl (show Dc Y_X12_counsels 156 (.iload 5) 2 158 from ⟨by decide +kernel, rfl⟩) ?_
    refine J_imul (show Dc Y_X12_counsels 158 (.imul) 1 159 from ⟨by decide +kernel, rfl⟩) ?_
    refine J_iload rfl (show Dc Y_X12_counsels 159 (.iload 6) 2 161 from ⟨by decide +kernel, rfl⟩) ?_
    refine J_iadd (show Dc Y_X12_counsels 161 (.iadd) 1 162 from ⟨by decide +kernel, rfl⟩) ?_
    refine J_iload rfl (show Dc Y_X12_counsels 162 (.iload 7) 2 164 from ⟨by decide +kernel, rfl⟩) ?_
    refine J_iload rfl (show Dc Y_X12_counsels 164 (.iload 8) 2 166 from ⟨by decide +kernel, rfl⟩) ?_
    refine J_callSi (fun r => r) (fun _ => g) (show Dc Y_X12_counsels 166 (.invokestatic 250) 3 169 from ⟨by decide +kernel, rfl⟩) w_m_RX12_250 w_st_J9_max_7cf53 w_cw_J9_max_7cf53 (c_J9_max_7cf53 (v4 - v6) (v10 - v12) g) rfl rfl (by decide) (Nat.le_of_ble_eq_true rfl) (by decide) (by decide) (fun v14 => ?_)
    refine J_iast (show Dc Y_X12_counsels 169 (.iastore) 1 170 from ⟨by decide +kernel, rfl⟩) (fun g15 => ?_)
    refine J_iload rfl (show Dc Y_X12_counsels 170 (.iload 8) 2 172 from ⟨by decide +kernel, rfl⟩) ?_
    refine J_iload rfl (show Dc Y_X12_counsels 172 (.iload 7) 2 174 from ⟨by decide +kernel, rfl⟩) ?_
    refine J_icmp_le (tg := 181) (show Dc Y_X12_counsels 174 (.if_icmp .le 7) 3 177 from ⟨by decide +kernel, rfl⟩) (by decide) (fun h => ?_) (fun h => ?_)
    · refine J_iconst (0 : Int32) rfl (show Dc Y_X12_counsels 181 (.iconst 0) 1 182 from ⟨by decide +kernel, rfl⟩) ?_
      refine J_mask [true, false, true, false, true, true, false, false, false] ?_
      exact j_X12_counsels_182 N x0 x2 x4 x5 (0 : Int32) g15 h0 hL63 hL72
    · refine J_iconst (1 : Int32) rfl (show Dc Y_X12_counsels 177 (.iconst 1) 1 178 from ⟨by decide +kernel, rfl⟩) ?_
      refine J_goto (tg := 182) (show Dc Y_X12_counsels 178 (.goto 4) 3 181 from ⟨by decide +kernel, rfl⟩) (by decide) ?_
      refine J_mask [true, false, true, false, true, true, false, false, false] ?_
      exact j_X12_counsels_182 N x0 x2 x4 x5 (1 : Int32) g15 h0 hL63 hL72

theorem j_X12_counsels_63 {X : ZX} (N : Nat) (x0 : Nat) (x2 : Int32) (x3 : Int32) (x4 : Int32)   (g : ZS) {K : ((Int32 × Int32 × ZS) ⊕ (Int32 × ZS)) → Prop} (h0 : ∀ v g, K (.inr (v, g)) → xK X (some (.int v)) g) (hL63 : ∀ s, K (.inl s) → zG Y_X12_counsels X 0 0 63 [some (.ref x0), none, some (.int x2), some (.int s.1), some (.int s.2.1), none, none, none, none] [] s.2.2) : J Y_X12_counsels X 0 0 63 [some (.ref x0), none, some (.int x2), some (.int x3), some (.int x4), none, none, none, none] [] g (f_X12_counsels_63 N x0 x2 x3 x4 g) K := by
  unfold f_X12_counsels_63
  refine J_iload rfl (show Dc Y_X12_counsels 63 (.iload 4) 2 65 from ⟨by decide +kernel, rfl⟩) ?_
  refine J_iload_n rfl rfl (show Dc Y_X12_counsels 65 (.iload_n 2) 1 66 from ⟨by decide +kernel, rfl⟩) ?_
  refine J_icmp_gt (tg := 195) (show Dc Y_X12_counsels 66 (.if_icmp .gt 129) 3 69 from ⟨by decide +kernel, rfl⟩) (by decide) (fun h => ?_) (fun h => ?_)
  · refine J_map (f := Sum.inr) (fun _ h => h) ?_
    refine J_aload_n rfl rfl (show Dc Y_X12_counsels 195 (.aload_n 0) 1 196 from ⟨by decide +kernel, rfl⟩) ?_
    refine J_iconst (0 : Int32) rfl (show Dc Y_X12_counsels 196 (.iconst 0) 1 197 from ⟨by decide +kernel, rfl⟩) ?_
    refine J_putI (show Dc Y_X12_counsels 197 (.putfield 113) 3 200 from ⟨by decide +kernel, rfl⟩) w_f_RX12_113 rfl rfl (fun g1 => ?_) (fun h => by cases h)
    refine J_aload_n rfl rfl (show Dc Y_X12_counsels 200 (.aload_n 0) 1 201 from ⟨by decide +kernel, rfl⟩) ?_
    refine J_iload_n rfl rfl (show Dc Y_X12_counsels 201 (.iload_n 3) 1 202 from ⟨by decide +kernel, rfl⟩) ?_
    refine J_i2l (show Dc Y_X12_counsels 202 (.i2l) 1 203 from ⟨by decide +kernel, rfl⟩) ?_
    refine J_callVv (fun r => r) (show Dc Y_X12_counsels 203 (.invokevirtual 274) 3 206 from ⟨by decide +kernel, rfl⟩) w_m_RX12_274 w_in_X12_tell rfl w_se_X12_tell w_cw_X12_tell (c_X12_tell x0 x3.toInt64 g1) rfl rfl (by decide) (Nat.le_of_ble_eq_true rfl) (by decide) (by decide) (fun g2 => ?_)
    refine J_bipush (100 : Int32) rfl (show Dc Y_X12_counsels 206 (.bipush 100) 2 208 from ⟨by decide +kernel, rfl⟩) ?_
    refine J_aload_n rfl rfl (show Dc Y_X12_counsels 208 (.aload_n 0) 1 209 from ⟨by decide +kernel, rfl⟩) ?_
    refine J_getR (show Dc Y_X12_counsels 209 (.getfield 87) 3 212 from ⟨by decide +kernel, rfl⟩) w_f_RX12_87 rfl (fun v3 => ?_)
    refine J_iload_n rfl rfl (show Dc Y_X12_counsels 212 (.iload_n 2) 1 213 from ⟨by decide +kernel, rfl⟩) ?_
    refine J_iald (show Dc Y_X12_counsels 213 (.iaload) 1 214 from ⟨by decide +kernel, rfl⟩) (fun v4 => ?_)
    refine J_iadd (show Dc Y_X12_counsels 214 (.iadd) 1 215 from ⟨by decide +kernel, rfl⟩) ?_
    exact J_reti (show Dc Y_X12_counsels 215 (.ireturn) 1 216 from ⟨by decide +kernel, rfl⟩) rfl (h0 _ _) (by decide) (by decide)
  · refine J_iconst (0 : Int32) rfl (show Dc Y_X12_counsels 69 (.iconst 0) 1 70 from ⟨by decide +kernel, rfl⟩) ?_
    refine J_istore [some (.ref x0), none, some (.int x2), some (.int x3), some (.int x4), some (.int (0 : Int32)), none, none, none] (show Dc Y_X12_counsels 70 (.istore 5) 2 72 from ⟨by decide +kernel, rfl⟩) (by decide) rfl rfl ?_
    exact J_loop (X := X) (K := K) (uc := fun _ => 0) (us := fun _ => 0) (lf := fun s => [some (.ref x0), none, some (.int x2), some (.int s.1), some (.int x4), some (.int s.2.1), none, none, none]) (gf := fun s => s.2.2) (fun s => j_X12_counsels_72 (K := zKl Y_X12_counsels X 72 (fun _ => 0) (fun _ => 0) (fun s => [some (.ref x0), none, some (.int x2), some (.int s.1), some (.int x4), some (.int s.2.1), none, none, none]) (fun s => s.2.2) K) N x0 x2 s.1 x4 s.2.1 s.2.2 h0 hL63 (fun s h => h)) N (x3, (0 : Int32), g)

theorem j_X12_counsels_34 {X : ZX} (N : Nat) (x0 : Nat) (x2 : Int32) (x3 : Int32) (x4 : Int32)   (g : ZS) {K : ((Int32 × ZS) ⊕ (Int32 × ZS)) → Prop} (h0 : ∀ v g, K (.inr (v, g)) → xK X (some (.int v)) g) (hL34 : ∀ s, K (.inl s) → zG Y_X12_counsels X 0 0 34 [some (.ref x0), none, some (.int x2), some (.int x3), some (.int s.1), none, none, none, none] [] s.2) : J Y_X12_counsels X 0 0 34 [some (.ref x0), none, some (.int x2), some (.int x3), some (.int x4), none, none, none, none] [] g (f_X12_counsels_34 N x0 x2 x3 x4 g) K := by
  unfold f_X12_counsels_34
  refine J_iload rfl (show Dc Y_X12_counsels 34 (.iload 4) 2 36 from ⟨by decide +kernel, rfl⟩) ?_
  refine J_iload_n rfl rfl (show Dc Y_X12_counsels 36 (.iload_n 2) 1 37 from ⟨by decide +kernel, rfl⟩) ?_
  refine J_icmp_gt (tg := 60) (show Dc Y_X12_counsels 37 (.if_icmp .gt 23) 3 40 from ⟨by decide +kernel, rfl⟩) (by decide) (fun h => ?_) (fun h => ?_)
  · refine J_map (f := Sum.inr) (fun _ h => h) ?_
    refine J_iconst (1 : Int32) rfl (show Dc Y_X12_counsels 60 (.iconst 1) 1 61 from ⟨by decide +kernel, rfl⟩) ?_
    refine J_istore [some (.ref x0), none, some (.int x2), some (.int x3), some (.int (1 : Int32)), none, none, none, none] (show Dc Y_X12_counsels 61 (.istore 4) 2 63 from ⟨by decide +kernel, rfl⟩) (by decide) rfl rfl ?_
    exact J_loop (X := X) (K := (fun o => K (.inr o))) (uc := fun _ => 0) (us := fun _ => 0) (lf := fun s => [some (.ref x0), none, some (.int x2), some (.int s.1), some (.int s.2.1), none, none, none, none]) (gf := fun s => s.2.2) (fun s => j_X12_counsels_63 (K := zKl Y_X12_counsels X 63 (fun _ => 0) (fun _ => 0) (fun s => [some (.ref x0), none, some (.int x2), some (.int s.1), some (.int s.2.1), none, none, none, none]) (fun s => s.2.2) (fun o => K (.inr o))) N x0 x2 s.1 s.2.1 s.2.2 h0 (fun s h => h)) N (x3, (1 : Int32), g)
  · refine J_aload_n rfl rfl (show Dc Y_X12_counsels 40 (.aload_n 0) 1 41 from ⟨by decide +kernel, rfl⟩) ?_
    refine J_getR (show Dc Y_X12_counsels 41 (.getfield 87) 3 44 from ⟨by decide +kernel, rfl⟩) w_f_RX12_87 rfl (fun v1 => ?_)
    refine J_bipush (9 : Int32) rfl (show Dc Y_X12_counsels 44 (.bipush 9) 2 46 from ⟨by decide +kernel, rfl⟩) ?_
    refine J_iload rfl (show Dc Y_X12_counsels 46 (.iload 4) 2 48 from ⟨by decide +kernel, rfl⟩) ?_
    refine J_imul (show Dc Y_X12_counsels 48 (.imul) 1 49 from ⟨by decide +kernel, rfl⟩) ?_
    refine J_iload rfl (show Dc Y_X12_counsels 49 (.iload 4) 2 51 from ⟨by decide +kernel, rfl⟩) ?_
    refine J_iadd (show Dc Y_X12_counsels 51 (.iadd) 1 52 from ⟨by decide +kernel, rfl⟩) ?_
    refine J_iconst (0 : Int32) rfl (show Dc Y_X12_counsels 52 (.iconst 0) 1 53 from ⟨by decide +kernel, rfl⟩) ?_
    refine J_iast (show Dc Y_X12_counsels 53 (.iastore) 1 54 from ⟨by decide +kernel, rfl⟩) (fun g2 => ?_)
    refine J_iinc (1 : Int32) [some (.ref x0), none, some (.int x2), some (.int x3), some (.int (x4 + (1 : Int32))), none, none, none, none] (show Dc Y_X12_counsels 54 (.iinc 4 1) 3 57 from ⟨by decide +kernel, rfl⟩) rfl rfl (by decide) rfl rfl ?_
    refine J_goto (tg := 34) (show Dc Y_X12_counsels 57 (.goto (-23)) 3 60 from ⟨by decide +kernel, rfl⟩) (by decide) ?_
    exact J_leaf (fun h => hL34 (x4 + (1 : Int32), g2) h)

theorem j_X12_counsels {X : ZX} (N : Nat) (x0 : Nat) (x1 : Int32)   (g : ZS) {K : (Int32 × ZS) → Prop} (h0 : ∀ v g, K (v, g) → xK X (some (.int v)) g) : J Y_X12_counsels X 0 0 0 [some (.ref x0), some (.int x1), none, none, none, none, none, none, none] [] g (f_X12_counsels N x0 x1 g) K := by
  unfold f_X12_counsels
  refine J_aload_n rfl rfl (show Dc Y_X12_counsels 0 (.aload_n 0) 1 1 from ⟨by decide +kernel, rfl⟩) ?_
  refine J_iconst (0 : Int32) rfl (show Dc Y_X12_counsels 1 (.iconst 0) 1 2 from ⟨by decide +kernel, rfl⟩) ?_
  refine J_putI (show Dc Y_X12_counsels 2 (.putfield 109) 3 5 from ⟨by decide +kernel, rfl⟩) w_f_RX12_109 rfl rfl (fun g1 => ?_) (fun h => by cases h)
  refine J_aload_n rfl rfl (show Dc Y_X12_counsels 5 (.aload_n 0) 1 6 from ⟨by decide +kernel, rfl⟩) ?_
  refine J_iload_n rfl rfl (show Dc Y_X12_counsels 6 (.iload_n 1) 1 7 from ⟨by decide +kernel, rfl⟩) ?_
  refine J_callVi (fun r => r) (fun _ => g1) (show Dc Y_X12_counsels 7 (.invokevirtual 234) 3 10 from ⟨by decide +kernel, rfl⟩) w_m_RX12_234 w_in_X12_isParrot rfl w_se_X12_isParrot w_cw_X12_isParrot (c_X12_isParrot x0 x1 g1) rfl rfl (by decide) (Nat.le_of_ble_eq_true rfl) (by decide) (by decide) (fun v2 => ?_)
  refine J_if_ne (tg := 15) (show Dc Y_X12_counsels 10 (.ifCond .ne 5) 3 13 from ⟨by decide +kernel, rfl⟩) (by decide) (fun h => ?_) (fun h => ?_)
  · refine J_aload_n rfl rfl (show Dc Y_X12_counsels 15 (.aload_n 0) 1 16 from ⟨by decide +kernel, rfl⟩) ?_
    refine J_aload_n rfl rfl (show Dc Y_X12_counsels 16 (.aload_n 0) 1 17 from ⟨by decide +kernel, rfl⟩) ?_
    refine J_getR (show Dc Y_X12_counsels 17 (.getfield 9) 3 20 from ⟨by decide +kernel, rfl⟩) w_f_RX12_9 rfl (fun v3 => ?_)
    refine J_iload_n rfl rfl (show Dc Y_X12_counsels 20 (.iload_n 1) 1 21 from ⟨by decide +kernel, rfl⟩) ?_
    refine J_aload_n rfl rfl (show Dc Y_X12_counsels 21 (.aload_n 0) 1 22 from ⟨by decide +kernel, rfl⟩) ?_
    refine J_getR (show Dc Y_X12_counsels 22 (.getfield 45) 3 25 from ⟨by decide +kernel, rfl⟩) w_f_RX12_45 rfl (fun v4 => ?_)
    refine J_callVi (fun r => r.1) (fun r => r.2) (show Dc Y_X12_counsels 25 (.invokevirtual 291) 3 28 from ⟨by decide +kernel, rfl⟩) w_m_RX12_291 w_in_X12_laySays rfl w_se_X12_laySays w_cw_X12_laySays (c_X12_laySays N x0 v3 x1 v4 g1) rfl rfl (by decide) (Nat.le_of_ble_eq_true rfl) (by decide) (by decide) (fun r5 => ?_)
    refine J_istore_n [some (.ref x0), some (.int x1), some (.int r5.1), none, none, none, none, none, none] (show Dc Y_X12_counsels 28 (.istore_n 2) 1 29 from ⟨by decide +kernel, rfl⟩) rfl (by decide) rfl rfl ?_
    refine J_iconst (-1 : Int32) rfl (show Dc Y_X12_counsels 29 (.iconst (-1)) 1 30 from ⟨by decide +kernel, rfl⟩) ?_
    refine J_istore_n [some (.ref x0), some (.int x1), some (.int r5.1), some (.int (-1 : Int32)), none, none, none, none, none] (show Dc Y_X12_counsels 30 (.istore_n 3) 1 31 from ⟨by decide +kernel, rfl⟩) rfl (by decide) rfl rfl ?_
    refine J_iconst (0 : Int32) rfl (show Dc Y_X12_counsels 31 (.iconst 0) 1 32 from ⟨by decide +kernel, rfl⟩) ?_
    refine J_istore [some (.ref x0), some (.int x1), some (.int r5.1), some (.int (-1 : Int32)), some (.int (0 : Int32)), none, none, none, none] (show Dc Y_X12_counsels 32 (.istore 4) 2 34 from ⟨by decide +kernel, rfl⟩) (by decide) rfl rfl ?_
    refine J_mask [true, false, true, true, true, false, false, false, false] ?_
    exact J_loop (X := X) (K := K) (uc := fun _ => 0) (us := fun _ => 0) (lf := fun s => [some (.ref x0), none, some (.int r5.1), some (.int (-1 : Int32)), some (.int s.1), none, none, none, none]) (gf := fun s => s.2) (fun s => j_X12_counsels_34 (K := zKl Y_X12_counsels X 34 (fun _ => 0) (fun _ => 0) (fun s => [some (.ref x0), none, some (.int r5.1), some (.int (-1 : Int32)), some (.int s.1), none, none, none, none]) (fun s => s.2) K) N x0 r5.1 (-1 : Int32) s.1 s.2 h0 (fun s h => h)) N ((0 : Int32), r5.2)
  · refine J_iconst (-1 : Int32) rfl (show Dc Y_X12_counsels 13 (.iconst (-1)) 1 14 from ⟨by decide +kernel, rfl⟩) ?_
    exact J_reti (show Dc Y_X12_counsels 14 (.ireturn) 1 15 from ⟨by decide +kernel, rfl⟩) rfl (h0 _ _) (by decide) (by decide)

theorem c_X12_counsels {l : Launch} {D : ZD} {B0 : Nat} (N : Nat) (x0 : Nat) (x1 : Int32) (g : ZS) : ∀ r, f_X12_counsels N x0 x1 g = some r → zCt l D B0 yX12_counsels Y_X12_counsels [.ref x0, .int x1] g (some (.int r.1)) r.2 :=
  zCt_ofF (vo := fun r => some (.int r.1)) (so := fun r => r.2) (by decide +kernel) rfl (fun h => by cases h) rfl (Nat.le_of_ble_eq_true rfl) (fun X => j_X12_counsels N x0 x1 g (fun _ _ h => h))

theorem j_X12_sure_33 {X : ZX} (N : Nat)    (g : ZS) {K : (Int32 × ZS) → Prop} (h0 : ∀ v g, K (v, g) → xK X (some (.int v)) g) : J Y_X12_sure X 0 0 33 [none, none, none, none, none, none, none, none, none, none, none, none, none] [] g (f_X12_sure_33 N g) K := by
  unfold f_X12_sure_33
  refine J_iconst (-1 : Int32) rfl (show Dc Y_X12_sure 33 (.iconst (-1)) 1 34 from ⟨by decide +kernel, rfl⟩) ?_
  exact J_reti (show Dc Y_X12_sure 34 (.ireturn) 1 35 from ⟨by decide +kernel, rfl⟩) rfl (h0 _ _) (by decide) (by decide)

theorem j_X12_sure_102 {X : ZX} (N : Nat) (x0 : Nat) (x2 : Int32) (x3 : Int32) (x4 : Int32) (x7 : Int64) (x9 : Int32) (s0 : Int64) (s1 : Int64)  (g : ZS) {K : ((Int64 × Int64 × Int32) ⊕ (Int32 × ZS)) → Prop} (h0 : ∀ v g, K (.inr (v, g)) → xK X (some (.int v)) g) (hL59 : ∀ s, K (.inl s) → zG Y_X12_sure X 0 0 59 [some (.ref x0), none, some (.int x2), some (.int x3), some (.int x4), some (.long s.1), none, some (.long s.2.1), none, some (.int s.2.2), none, none, none] [] g) : J Y_X12_sure X 0 0 102 [some (.ref x0), none, some (.int x2), some (.int x3), some (.int x4), none, none, some (.long x7), none, some (.int x9), none, none, none] [.long s1, .long s0] g (f_X12_sure_102 N x0 x2 x3 x4 x7 x9 s0 s1 g) K := by
  unfold f_X12_sure_102
  refine J_ladd (show Dc Y_X12_sure 102 (.ladd) 1 103 from ⟨by decide +kernel, rfl⟩) ?_
  refine J_lstore [some (.ref x0), none, some (.int x2), some (.int x3), some (.int x4), some (.long (s0 + s1)), none, some (.long x7), none, some (.int x9), none, none, none] (show Dc Y_X12_sure 103 (.lstore 5) 2 105 from ⟨by decide +kernel, rfl⟩) (by decide) rfl rfl ?_
  refine J_lload rfl (show Dc Y_X12_sure 105 (.lload 7) 2 107 from ⟨by decide +kernel, rfl⟩) ?_
  refine J_iload rfl (show Dc Y_X12_sure 107 (.iload 4) 2 109 from ⟨by decide +kernel, rfl⟩) ?_
  refine J_iload rfl (show Dc Y_X12_sure 109 (.iload 9) 2 111 from ⟨by decide +kernel, rfl⟩) ?_
  refine J_isub (show Dc Y_X12_sure 111 (.isub) 1 112 from ⟨by decide +kernel, rfl⟩) ?_
  refine J_i2l (show Dc Y_X12_sure 112 (.i2l) 1 113 from ⟨by decide +kernel, rfl⟩) ?_
  refine J_lmul (show Dc Y_X12_sure 113 (.lmul) 1 114 from ⟨by decide +kernel, rfl⟩) ?_
  refine J_iload rfl (show Dc Y_X12_sure 114 (.iload 9) 2 116 from ⟨by decide +kernel, rfl⟩) ?_
  refine J_iconst (1 : Int32) rfl (show Dc Y_X12_sure 116 (.iconst 1) 1 117 from ⟨by decide +kernel, rfl⟩) ?_
  refine J_iadd (show Dc Y_X12_sure 117 (.iadd) 1 118 from ⟨by decide +kernel, rfl⟩) ?_
  refine J_i2l (show Dc Y_X12_sure 118 (.i2l) 1 119 from ⟨by decide +kernel, rfl⟩) ?_
  refine J_ldiv (show Dc Y_X12_sure 119 (.ldiv) 1 120 from ⟨by decide +kernel, rfl⟩) ?_
  refine J_lstore [some (.ref x0), none, some (.int x2), some (.int x3), some (.int x4), some (.long (s0 + s1)), none, some (.long ((x7 * ((x4 - x9).toInt64)) / ((x9 + (1 : Int32)).toInt64))), none, some (.int x9), none, none, none] (show Dc Y_X12_sure 120 (.lstore 7) 2 122 from ⟨by decide +kernel, rfl⟩) (by decide) rfl rfl ?_
  refine J_iinc (1 : Int32) [some (.ref x0), none, some (.int x2), some (.int x3), some (.int x4), some (.long (s0 + s1)), none, some (.long ((x7 * ((x4 - x9).toInt64)) / ((x9 + (1 : Int32)).toInt64))), none, some (.int (x9 + (1 : Int32))), none, none, none] (show Dc Y_X12_sure 122 (.iinc 9 1) 3 125 from ⟨by decide +kernel, rfl⟩) rfl rfl (by decide) rfl rfl ?_
  refine J_goto (tg := 59) (show Dc Y_X12_sure 125 (.goto (-66)) 3 128 from ⟨by decide +kernel, rfl⟩) (by decide) ?_
  exact J_leaf (fun h => hL59 (s0 + s1, (x7 * ((x4 - x9).toInt64)) / ((x9 + (1 : Int32)).toInt64), x9 + (1 : Int32)) h)

theorem j_X12_sure_59 {X : ZX} (N : Nat) (x0 : Nat) (x2 : Int32) (x3 : Int32) (x4 : Int32) (x5 : Int64) (x7 : Int64) (x9 : Int32)   (g : ZS) {K : ((Int64 × Int64 × Int32) ⊕ (Int32 × ZS)) → Prop} (h0 : ∀ v g, K (.inr (v, g)) → xK X (some (.int v)) g) (hL59 : ∀ s, K (.inl s) → zG Y_X12_sure X 0 0 59 [some (.ref x0), none, some (.int x2), some (.int x3), some (.int x4), some (.long s.1), none, some (.long s.2.1), none, some (.int s.2.2), none, none, none] [] g) : J Y_X12_sure X 0 0 59 [some (.ref x0), none, some (.int x2), some (.int x3), some (.int x4), some (.long x5), none, some (.long x7), none, some (.int x9), none, none, none] [] g (f_X12_sure_59 N x0 x2 x3 x4 x5 x7 x9 g) K := by
  unfold f_X12_sure_59
  refine J_iload rfl (show Dc Y_X12_sure 59 (.iload 9) 2 61 from ⟨by decide +kernel, rfl⟩) ?_
  refine J_iload rfl (show Dc Y_X12_sure 61 (.iload 4) 2 63 from ⟨by decide +kernel, rfl⟩) ?_
  refine J_icmp_gt (tg := 128) (show Dc Y_X12_sure 63 (.if_icmp .gt 65) 3 66 from ⟨by decide +kernel, rfl⟩) (by decide) (fun h => ?_) (fun h => ?_)
  · refine J_map (f := Sum.inr) (fun _ h => h) ?_
    refine J_ldc2 (10 : Int64) w_kl_RX12_371 (show Dc Y_X12_sure 128 (.ldc2_w 371) 3 131 from ⟨by decide +kernel, rfl⟩) ?_
    refine J_iload rfl (show Dc Y_X12_sure 131 (.iload 4) 2 133 from ⟨by decide +kernel, rfl⟩) ?_
    refine J_callSl (fun r => r) (fun _ => g) (show Dc Y_X12_sure 133 (.invokestatic 367) 3 136 from ⟨by decide +kernel, rfl⟩) w_m_RX12_367 w_st_X12_power w_cw_X12_power (c_X12_power N (10 : Int64) x4 g) rfl rfl (by decide) (Nat.le_of_ble_eq_true rfl) (by decide) (by decide) (fun v1 => ?_)
    refine J_lstore [some (.ref x0), none, some (.int x2), some (.int x3), some (.int x4), some (.long x5), none, some (.long x7), none, some (.long v1), none, none, none] (show Dc Y_X12_sure 136 (.lstore 9) 2 138 from ⟨by decide +kernel, rfl⟩) (by decide) rfl rfl ?_
    refine J_lload rfl (show Dc Y_X12_sure 138 (.lload 5) 2 140 from ⟨by decide +kernel, rfl⟩) ?_
    refine J_lload rfl (show Dc Y_X12_sure 140 (.lload 9) 2 142 from ⟨by decide +kernel, rfl⟩) ?_
    refine J_callSl (fun r => r) (fun _ => g) (show Dc Y_X12_sure 142 (.invokestatic 363) 3 145 from ⟨by decide +kernel, rfl⟩) w_m_RX12_363 w_st_X12_common (w_cw_X12_common _) (c_X12_common x5 v1 g) rfl rfl (by decide) (Nat.le_of_ble_eq_true rfl) (by decide) (by decide) (fun v2 => ?_)
    refine J_lstore [some (.ref x0), none, some (.int x2), some (.int x3), some (.int x4), some (.long x5), none, some (.long x7), none, some (.long v1), none, some (.long v2), none] (show Dc Y_X12_sure 145 (.lstore 11) 2 147 from ⟨by decide +kernel, rfl⟩) (by decide) rfl rfl ?_
    refine J_aload_n rfl rfl (show Dc Y_X12_sure 147 (.aload_n 0) 1 148 from ⟨by decide +kernel, rfl⟩) ?_
    refine J_iconst (0 : Int32) rfl (show Dc Y_X12_sure 148 (.iconst 0) 1 149 from ⟨by decide +kernel, rfl⟩) ?_
    refine J_putI (show Dc Y_X12_sure 149 (.putfield 113) 3 152 from ⟨by decide +kernel, rfl⟩) w_f_RX12_113 rfl rfl (fun g3 => ?_) (fun h => by cases h)
    refine J_aload_n rfl rfl (show Dc Y_X12_sure 152 (.aload_n 0) 1 153 from ⟨by decide +kernel, rfl⟩) ?_
    refine J_lload rfl (show Dc Y_X12_sure 153 (.lload 5) 2 155 from ⟨by decide +kernel, rfl⟩) ?_
    refine J_lload rfl (show Dc Y_X12_sure 155 (.lload 11) 2 157 from ⟨by decide +kernel, rfl⟩) ?_
    refine J_ldiv (show Dc Y_X12_sure 157 (.ldiv) 1 158 from ⟨by decide +kernel, rfl⟩) ?_
    refine J_callVv (fun r => r) (show Dc Y_X12_sure 158 (.invokevirtual 274) 3 161 from ⟨by decide +kernel, rfl⟩) w_m_RX12_274 w_in_X12_tell rfl w_se_X12_tell w_cw_X12_tell (c_X12_tell x0 (x5 / v2) g3) rfl rfl (by decide) (Nat.le_of_ble_eq_true rfl) (by decide) (by decide) (fun g4 => ?_)
    refine J_aload_n rfl rfl (show Dc Y_X12_sure 161 (.aload_n 0) 1 162 from ⟨by decide +kernel, rfl⟩) ?_
    refine J_lload rfl (show Dc Y_X12_sure 162 (.lload 9) 2 164 from ⟨by decide +kernel, rfl⟩) ?_
    refine J_lload rfl (show Dc Y_X12_sure 164 (.lload 11) 2 166 from ⟨by decide +kernel, rfl⟩) ?_
    refine J_ldiv (show Dc Y_X12_sure 166 (.ldiv) 1 167 from ⟨by decide +kernel, rfl⟩) ?_
    refine J_callVv (fun r => r) (show Dc Y_X12_sure 167 (.invokevirtual 274) 3 170 from ⟨by decide +kernel, rfl⟩) w_m_RX12_274 w_in_X12_tell rfl w_se_X12_tell w_cw_X12_tell (c_X12_tell x0 (v1 / v2) g4) rfl rfl (by decide) (Nat.le_of_ble_eq_true rfl) (by decide) (by decide) (fun g5 => ?_)
    refine J_iconst (0 : Int32) rfl (show Dc Y_X12_sure 170 (.iconst 0) 1 171 from ⟨by decide +kernel, rfl⟩) ?_
    exact J_reti (show Dc Y_X12_sure 171 (.ireturn) 1 172 from ⟨by decide +kernel, rfl⟩) rfl (h0 _ _) (by decide) (by decide)
  · refine J_lload rfl (show Dc Y_X12_sure 66 (.lload 5) 2 68 from ⟨by decide +kernel, rfl⟩) ?_
    refine J_iload rfl (show Dc Y_X12_sure 68 (.iload 9) 2 70 from ⟨by decide +kernel, rfl⟩) ?_
    refine J_iload_n rfl rfl (show Dc Y_X12_sure 70 (.iload_n 3) 1 71 from ⟨by decide +kernel, rfl⟩) ?_
    refine J_icmp_lt (tg := 101) (show Dc Y_X12_sure 71 (.if_icmp .lt 30) 3 74 from ⟨by decide +kernel, rfl⟩) (by decide) (fun h => ?_) (fun h => ?_)
    · refine J_lconst (0 : Int64) rfl (show Dc Y_X12_sure 101 (.lconst 0) 1 102 from ⟨by decide +kernel, rfl⟩) ?_
      refine J_mask [true, false, true, true, true, false, false, true, false, true, false, false, false] ?_
      exact j_X12_sure_102 N x0 x2 x3 x4 x7 x9 x5 (0 : Int64) g h0 hL59
    · refine J_lload rfl (show Dc Y_X12_sure 74 (.lload 7) 2 76 from ⟨by decide +kernel, rfl⟩) ?_
      refine J_iload_n rfl rfl (show Dc Y_X12_sure 76 (.iload_n 2) 1 77 from ⟨by decide +kernel, rfl⟩) ?_
      refine J_i2l (show Dc Y_X12_sure 77 (.i2l) 1 78 from ⟨by decide +kernel, rfl⟩) ?_
      refine J_iload rfl (show Dc Y_X12_sure 78 (.iload 9) 2 80 from ⟨by decide +kernel, rfl⟩) ?_
      refine J_callSl (fun r => r) (fun _ => g) (show Dc Y_X12_sure 80 (.invokestatic 367) 3 83 from ⟨by decide +kernel, rfl⟩) w_m_RX12_367 w_st_X12_power w_cw_X12_power (c_X12_power N x2.toInt64 x9 g) rfl rfl (by decide) (Nat.le_of_ble_eq_true rfl) (by decide) (by decide) (fun v6 => ?_)
      refine J_lmul (show Dc Y_X12_sure 83 (.lmul) 1 84 from ⟨by decide +kernel, rfl⟩) ?_
      refine J_bipush (10 : Int32) rfl (show Dc Y_X12_sure 84 (.bipush 10) 2 86 from ⟨by decide +kernel, rfl⟩) ?_
      refine J_iload_n rfl rfl (show Dc Y_X12_sure 86 (.iload_n 2) 1 87 from ⟨by decide +kernel, rfl⟩) ?_
      refine J_isub (show Dc Y_X12_sure 87 (.isub) 1 88 from ⟨by decide +kernel, rfl⟩) ?_
      refine J_i2l (show Dc Y_X12_sure 88 (.i2l) 1 89 from ⟨by decide +kernel, rfl⟩) ?_
      refine J_iload rfl (show Dc Y_X12_sure 89 (.iload 4) 2 91 from ⟨by decide +kernel, rfl⟩) ?_
      refine J_iload rfl (show Dc Y_X12_sure 91 (.iload 9) 2 93 from ⟨by decide +kernel, rfl⟩) ?_
      refine J_isub (show Dc Y_X12_sure 93 (.isub) 1 94 from ⟨by decide +kernel, rfl⟩) ?_
      refine J_callSl (fun r => r) (fun _ => g) (show Dc Y_X12_sure 94 (.invokestatic 367) 3 97 from ⟨by decide +kernel, rfl⟩) w_m_RX12_367 w_st_X12_power w_cw_X12_power (c_X12_power N (((10 : Int32) - x2).toInt64) (x4 - x9) g) rfl rfl (by decide) (Nat.le_of_ble_eq_true rfl) (by decide) (by decide) (fun v7 => ?_)
      refine J_lmul (show Dc Y_X12_sure 97 (.lmul) 1 98 from ⟨by decide +kernel, rfl⟩) ?_
      refine J_goto (tg := 102) (show Dc Y_X12_sure 98 (.goto 4) 3 101 from ⟨by decide +kernel, rfl⟩) (by decide) ?_
      refine J_mask [true, false, true, true, true, false, false, true, false, true, false, false, false] ?_
      exact j_X12_sure_102 N x0 x2 x3 x4 x7 x9 x5 ((x7 * v6) * v7) g h0 hL59

theorem j_X12_sure {X : ZX} (N : Nat) (x0 : Nat) (x1 : Int32) (x2 : Int32) (x3 : Int32)   (g : ZS) {K : (Int32 × ZS) → Prop} (h0 : ∀ v g, K (v, g) → xK X (some (.int v)) g) : J Y_X12_sure X 0 0 0 [some (.ref x0), some (.int x1), some (.int x2), some (.int x3), none, none, none, none, none, none, none, none, none] [] g (f_X12_sure N x0 x1 x2 x3 g) K := by
  unfold f_X12_sure
  refine J_aload_n rfl rfl (show Dc Y_X12_sure 0 (.aload_n 0) 1 1 from ⟨by decide +kernel, rfl⟩) ?_
  refine J_iconst (0 : Int32) rfl (show Dc Y_X12_sure 1 (.iconst 0) 1 2 from ⟨by decide +kernel, rfl⟩) ?_
  refine J_putI (show Dc Y_X12_sure 2 (.putfield 109) 3 5 from ⟨by decide +kernel, rfl⟩) w_f_RX12_109 rfl rfl (fun g1 => ?_) (fun h => by cases h)
  refine J_aload_n rfl rfl (show Dc Y_X12_sure 5 (.aload_n 0) 1 6 from ⟨by decide +kernel, rfl⟩) ?_
  refine J_iload_n rfl rfl (show Dc Y_X12_sure 6 (.iload_n 1) 1 7 from ⟨by decide +kernel, rfl⟩) ?_
  refine J_callVi (fun r => r) (fun _ => g1) (show Dc Y_X12_sure 7 (.invokevirtual 234) 3 10 from ⟨by decide +kernel, rfl⟩) w_m_RX12_234 w_in_X12_isParrot rfl w_se_X12_isParrot w_cw_X12_isParrot (c_X12_isParrot x0 x1 g1) rfl rfl (by decide) (Nat.le_of_ble_eq_true rfl) (by decide) (by decide) (fun v2 => ?_)
  refine J_if_eq (tg := 33) (show Dc Y_X12_sure 10 (.ifCond .eq 23) 3 13 from ⟨by decide +kernel, rfl⟩) (by decide) (fun h => ?_) (fun h => ?_)
  · refine J_mask [false, false, false, false, false, false, false, false, false, false, false, false, false] ?_
    exact j_X12_sure_33 N g1 h0
  · refine J_iload_n rfl rfl (show Dc Y_X12_sure 13 (.iload_n 2) 1 14 from ⟨by decide +kernel, rfl⟩) ?_
    refine J_iconst (0 : Int32) rfl (show Dc Y_X12_sure 14 (.iconst 0) 1 15 from ⟨by decide +kernel, rfl⟩) ?_
    refine J_bipush (10 : Int32) rfl (show Dc Y_X12_sure 15 (.bipush 10) 2 17 from ⟨by decide +kernel, rfl⟩) ?_
    refine J_callSi (fun r => r) (fun _ => g1) (show Dc Y_X12_sure 17 (.invokestatic 119) 3 20 from ⟨by decide +kernel, rfl⟩) w_m_RX12_119 w_st_X12_in w_cw_X12_in (c_X12_in x2 (0 : Int32) (10 : Int32) g1) rfl rfl (by decide) (Nat.le_of_ble_eq_true rfl) (by decide) (by decide) (fun v3 => ?_)
    refine J_if_eq (tg := 33) (show Dc Y_X12_sure 20 (.ifCond .eq 13) 3 23 from ⟨by decide +kernel, rfl⟩) (by decide) (fun h => ?_) (fun h => ?_)
    · refine J_mask [false, false, false, false, false, false, false, false, false, false, false, false, false] ?_
      exact j_X12_sure_33 N g1 h0
    · refine J_iload_n rfl rfl (show Dc Y_X12_sure 23 (.iload_n 3) 1 24 from ⟨by decide +kernel, rfl⟩) ?_
      refine J_iconst (0 : Int32) rfl (show Dc Y_X12_sure 24 (.iconst 0) 1 25 from ⟨by decide +kernel, rfl⟩) ?_
      refine J_bipush (8 : Int32) rfl (show Dc Y_X12_sure 25 (.bipush 8) 2 27 from ⟨by decide +kernel, rfl⟩) ?_
      refine J_callSi (fun r => r) (fun _ => g1) (show Dc Y_X12_sure 27 (.invokestatic 119) 3 30 from ⟨by decide +kernel, rfl⟩) w_m_RX12_119 w_st_X12_in w_cw_X12_in (c_X12_in x3 (0 : Int32) (8 : Int32) g1) rfl rfl (by decide) (Nat.le_of_ble_eq_true rfl) (by decide) (by decide) (fun v4 => ?_)
      refine J_if_ne (tg := 35) (show Dc Y_X12_sure 30 (.ifCond .ne 5) 3 33 from ⟨by decide +kernel, rfl⟩) (by decide) (fun h => ?_) (fun h => ?_)
      · refine J_aload_n rfl rfl (show Dc Y_X12_sure 35 (.aload_n 0) 1 36 from ⟨by decide +kernel, rfl⟩) ?_
        refine J_aload_n rfl rfl (show Dc Y_X12_sure 36 (.aload_n 0) 1 37 from ⟨by decide +kernel, rfl⟩) ?_
        refine J_getR (show Dc Y_X12_sure 37 (.getfield 9) 3 40 from ⟨by decide +kernel, rfl⟩) w_f_RX12_9 rfl (fun v5 => ?_)
        refine J_iload_n rfl rfl (show Dc Y_X12_sure 40 (.iload_n 1) 1 41 from ⟨by decide +kernel, rfl⟩) ?_
        refine J_aload_n rfl rfl (show Dc Y_X12_sure 41 (.aload_n 0) 1 42 from ⟨by decide +kernel, rfl⟩) ?_
        refine J_getR (show Dc Y_X12_sure 42 (.getfield 45) 3 45 from ⟨by decide +kernel, rfl⟩) w_f_RX12_45 rfl (fun v6 => ?_)
        refine J_callVi (fun r => r.1) (fun r => r.2) (show Dc Y_X12_sure 45 (.invokevirtual 291) 3 48 from ⟨by decide +kernel, rfl⟩) w_m_RX12_291 w_in_X12_laySays rfl w_se_X12_laySays w_cw_X12_laySays (c_X12_laySays N x0 v5 x1 v6 g1) rfl rfl (by decide) (Nat.le_of_ble_eq_true rfl) (by decide) (by decide) (fun r7 => ?_)
        refine J_istore [some (.ref x0), some (.int x1), some (.int x2), some (.int x3), some (.int r7.1), none, none, none, none, none, none, none, none] (show Dc Y_X12_sure 48 (.istore 4) 2 50 from ⟨by decide +kernel, rfl⟩) (by decide) rfl rfl ?_
        refine J_lconst (0 : Int64) rfl (show Dc Y_X12_sure 50 (.lconst 0) 1 51 from ⟨by decide +kernel, rfl⟩) ?_
        refine J_lstore [some (.ref x0), some (.int x1), some (.int x2), some (.int x3), some (.int r7.1), some (.long (0 : Int64)), none, none, none, none, none, none, none] (show Dc Y_X12_sure 51 (.lstore 5) 2 53 from ⟨by decide +kernel, rfl⟩) (by decide) rfl rfl ?_
        refine J_lconst (1 : Int64) rfl (show Dc Y_X12_sure 53 (.lconst 1) 1 54 from ⟨by decide +kernel, rfl⟩) ?_
        refine J_lstore [some (.ref x0), some (.int x1), some (.int x2), some (.int x3), some (.int r7.1), some (.long (0 : Int64)), none, some (.long (1 : Int64)), none, none, none, none, none] (show Dc Y_X12_sure 54 (.lstore 7) 2 56 from ⟨by decide +kernel, rfl⟩) (by decide) rfl rfl ?_
        refine J_iconst (0 : Int32) rfl (show Dc Y_X12_sure 56 (.iconst 0) 1 57 from ⟨by decide +kernel, rfl⟩) ?_
        refine J_istore [some (.ref x0), some (.int x1), some (.int x2), some (.int x3), some (.int r7.1), some (.long (0 : Int64)), none, some (.long (1 : Int64)), none, some (.int (0 : Int32)), none, none, none] (show Dc Y_X12_sure 57 (.istore 9) 2 59 from ⟨by decide +kernel, rfl⟩) (by decide) rfl rfl ?_
        refine J_mask [true, false, true, true, true, true, false, true, false, true, false, false, false] ?_
        exact J_loop (X := X) (K := K) (uc := fun _ => 0) (us := fun _ => 0) (lf := fun s => [some (.ref x0), none, some (.int x2), some (.int x3), some (.int r7.1), some (.long s.1), none, some (.long s.2.1), none, some (.int s.2.2), none, none, none]) (gf := fun s => r7.2) (fun s => j_X12_sure_59 (K := zKl Y_X12_sure X 59 (fun _ => 0) (fun _ => 0) (fun s => [some (.ref x0), none, some (.int x2), some (.int x3), some (.int r7.1), some (.long s.1), none, some (.long s.2.1), none, some (.int s.2.2), none, none, none]) (fun s => r7.2) K) N x0 x2 x3 r7.1 s.1 s.2.1 s.2.2 r7.2 h0 (fun s h => h)) N ((0 : Int64), (1 : Int64), (0 : Int32))
      · refine J_mask [false, false, false, false, false, false, false, false, false, false, false, false, false] ?_
        exact j_X12_sure_33 N g1 h0

theorem c_X12_sure {l : Launch} {D : ZD} {B0 : Nat} (N : Nat) (x0 : Nat) (x1 : Int32) (x2 : Int32) (x3 : Int32) (g : ZS) : ∀ r, f_X12_sure N x0 x1 x2 x3 g = some r → zCt l D B0 yX12_sure Y_X12_sure [.ref x0, .int x1, .int x2, .int x3] g (some (.int r.1)) r.2 :=
  zCt_ofF (vo := fun r => some (.int r.1)) (so := fun r => r.2) (by decide +kernel) rfl (fun h => by cases h) rfl (Nat.le_of_ble_eq_true rfl) (fun X => j_X12_sure N x0 x1 x2 x3 g (fun _ _ h => h))

theorem j_X12_fits_50 {X : ZX} (N : Nat)  (s0 : Int32)  (g : ZS) {K : (Int32 × ZS) → Prop} (h0 : ∀ v g, K (v, g) → xK X (some (.int v)) g) : J Y_X12_fits X 0 0 50 [none, none, none, none] [.int s0] g (f_X12_fits_50 N s0 g) K := by
  unfold f_X12_fits_50
  exact J_retZ (show Dc Y_X12_fits 50 (.ireturn) 1 51 from ⟨by decide +kernel, rfl⟩) rfl (h0 _ _) (by decide) (by decide)

theorem j_X12_fits_69 {X : ZX} (N : Nat)  (s0 : Int32)  (g : ZS) {K : (Int32 × ZS) → Prop} (h0 : ∀ v g, K (v, g) → xK X (some (.int v)) g) : J Y_X12_fits X 0 0 69 [none, none, none, none] [.int s0] g (f_X12_fits_69 N s0 g) K := by
  unfold f_X12_fits_69
  exact J_retZ (show Dc Y_X12_fits 69 (.ireturn) 1 70 from ⟨by decide +kernel, rfl⟩) rfl (h0 _ _) (by decide) (by decide)

theorem j_X12_fits_89 {X : ZX} (N : Nat)  (s0 : Int32)  (g : ZS) {K : (Int32 × ZS) → Prop} (h0 : ∀ v g, K (v, g) → xK X (some (.int v)) g) : J Y_X12_fits X 0 0 89 [none, none, none, none] [.int s0] g (f_X12_fits_89 N s0 g) K := by
  unfold f_X12_fits_89
  exact J_retZ (show Dc Y_X12_fits 89 (.ireturn) 1 90 from ⟨by decide +kernel, rfl⟩) rfl (h0 _ _) (by decide) (by decide)

theorem j_X12_fits_105 {X : ZX} (N : Nat)  (s0 : Int32)  (g : ZS) {K : (Int32 × ZS) → Prop} (h0 : ∀ v g, K (v, g) → xK X (some (.int v)) g) : J Y_X12_fits X 0 0 105 [none, none, none, none] [.int s0] g (f_X12_fits_105 N s0 g) K := by
  unfold f_X12_fits_105
  exact J_retZ (show Dc Y_X12_fits 105 (.ireturn) 1 106 from ⟨by decide +kernel, rfl⟩) rfl (h0 _ _) (by decide) (by decide)

theorem j_X12_fits {X : ZX} (N : Nat) (x0 : Nat) (x1 : Int32) (x2 : Int32) (x3 : Int32)   (g : ZS) {K : (Int32 × ZS) → Prop} (h0 : ∀ v g, K (v, g) → xK X (some (.int v)) g) : J Y_X12_fits X 0 0 0 [some (.ref x0), some (.int x1), some (.int x2), some (.int x3)] [] g (f_X12_fits N x0 x1 x2 x3 g) K := by
  unfold f_X12_fits
  refine J_iload_n rfl rfl (show Dc Y_X12_fits 0 (.iload_n 2) 1 1 from ⟨by decide +kernel, rfl⟩) ?_
  refine J_tsw (tgd := 106) [((0 : Int32), 32, _), ((1 : Int32), 51, _), ((2 : Int32), 70, _), ((3 : Int32), 90, _)] (show Dc Y_X12_fits 1 (.tableswitch 105 0 3 #[31, 50, 69, 89]) 31 32 from ⟨by decide +kernel, rfl⟩) (by simp only [List.map_cons, List.map_nil]; decide +kernel) ?_ ?_
  · refine List.forall_mem_cons.mpr ⟨?_, List.forall_mem_cons.mpr ⟨?_, List.forall_mem_cons.mpr ⟨?_, List.forall_mem_cons.mpr ⟨?_, fun _ h => absurd h List.not_mem_nil⟩⟩⟩⟩
    · refine J_aload_n rfl rfl (show Dc Y_X12_fits 32 (.aload_n 0) 1 33 from ⟨by decide +kernel, rfl⟩) ?_
      refine J_aload_n rfl rfl (show Dc Y_X12_fits 33 (.aload_n 0) 1 34 from ⟨by decide +kernel, rfl⟩) ?_
      refine J_getR (show Dc Y_X12_fits 34 (.getfield 9) 3 37 from ⟨by decide +kernel, rfl⟩) w_f_RX12_9 rfl (fun v1 => ?_)
      refine J_iload_n rfl rfl (show Dc Y_X12_fits 37 (.iload_n 1) 1 38 from ⟨by decide +kernel, rfl⟩) ?_
      refine J_iload_n rfl rfl (show Dc Y_X12_fits 38 (.iload_n 3) 1 39 from ⟨by decide +kernel, rfl⟩) ?_
      refine J_callVi (fun r => r.1) (fun r => r.2) (show Dc Y_X12_fits 39 (.invokevirtual 316) 3 42 from ⟨by decide +kernel, rfl⟩) w_m_RX12_316 w_in_X12_placeOf rfl w_se_X12_placeOf w_cw_X12_placeOf (c_X12_placeOf N x0 v1 x1 x3 g) rfl rfl (by decide) (Nat.le_of_ble_eq_true rfl) (by decide) (by decide) (fun r2 => ?_)
      refine J_if_lt (tg := 49) (show Dc Y_X12_fits 42 (.ifCond .lt 7) 3 45 from ⟨by decide +kernel, rfl⟩) (by decide) (fun h => ?_) (fun h => ?_)
      · refine J_iconst (0 : Int32) rfl (show Dc Y_X12_fits 49 (.iconst 0) 1 50 from ⟨by decide +kernel, rfl⟩) ?_
        refine J_mask [false, false, false, false] ?_
        exact j_X12_fits_50 N (0 : Int32) r2.2 h0
      · refine J_iconst (1 : Int32) rfl (show Dc Y_X12_fits 45 (.iconst 1) 1 46 from ⟨by decide +kernel, rfl⟩) ?_
        refine J_goto (tg := 50) (show Dc Y_X12_fits 46 (.goto 4) 3 49 from ⟨by decide +kernel, rfl⟩) (by decide) ?_
        refine J_mask [false, false, false, false] ?_
        exact j_X12_fits_50 N (1 : Int32) r2.2 h0
    · refine J_aload_n rfl rfl (show Dc Y_X12_fits 51 (.aload_n 0) 1 52 from ⟨by decide +kernel, rfl⟩) ?_
      refine J_aload_n rfl rfl (show Dc Y_X12_fits 52 (.aload_n 0) 1 53 from ⟨by decide +kernel, rfl⟩) ?_
      refine J_getR (show Dc Y_X12_fits 53 (.getfield 9) 3 56 from ⟨by decide +kernel, rfl⟩) w_f_RX12_9 rfl (fun v3 => ?_)
      refine J_iload_n rfl rfl (show Dc Y_X12_fits 56 (.iload_n 1) 1 57 from ⟨by decide +kernel, rfl⟩) ?_
      refine J_iload_n rfl rfl (show Dc Y_X12_fits 57 (.iload_n 3) 1 58 from ⟨by decide +kernel, rfl⟩) ?_
      refine J_callVi (fun r => r.1) (fun r => r.2) (show Dc Y_X12_fits 58 (.invokevirtual 316) 3 61 from ⟨by decide +kernel, rfl⟩) w_m_RX12_316 w_in_X12_placeOf rfl w_se_X12_placeOf w_cw_X12_placeOf (c_X12_placeOf N x0 v3 x1 x3 g) rfl rfl (by decide) (Nat.le_of_ble_eq_true rfl) (by decide) (by decide) (fun r4 => ?_)
      refine J_if_ge (tg := 68) (show Dc Y_X12_fits 61 (.ifCond .ge 7) 3 64 from ⟨by decide +kernel, rfl⟩) (by decide) (fun h => ?_) (fun h => ?_)
      · refine J_iconst (0 : Int32) rfl (show Dc Y_X12_fits 68 (.iconst 0) 1 69 from ⟨by decide +kernel, rfl⟩) ?_
        refine J_mask [false, false, false, false] ?_
        exact j_X12_fits_69 N (0 : Int32) r4.2 h0
      · refine J_iconst (1 : Int32) rfl (show Dc Y_X12_fits 64 (.iconst 1) 1 65 from ⟨by decide +kernel, rfl⟩) ?_
        refine J_goto (tg := 69) (show Dc Y_X12_fits 65 (.goto 4) 3 68 from ⟨by decide +kernel, rfl⟩) (by decide) ?_
        refine J_mask [false, false, false, false] ?_
        exact j_X12_fits_69 N (1 : Int32) r4.2 h0
    · refine J_aload_n rfl rfl (show Dc Y_X12_fits 70 (.aload_n 0) 1 71 from ⟨by decide +kernel, rfl⟩) ?_
      refine J_getR (show Dc Y_X12_fits 71 (.getfield 9) 3 74 from ⟨by decide +kernel, rfl⟩) w_f_RX12_9 rfl (fun v5 => ?_)
      refine J_iload_n rfl rfl (show Dc Y_X12_fits 74 (.iload_n 1) 1 75 from ⟨by decide +kernel, rfl⟩) ?_
      refine J_iconst (0 : Int32) rfl (show Dc Y_X12_fits 75 (.iconst 0) 1 76 from ⟨by decide +kernel, rfl⟩) ?_
      refine J_callSi (fun r => r) (fun _ => g) (show Dc Y_X12_fits 76 (.invokestatic 179) 3 79 from ⟨by decide +kernel, rfl⟩) w_m_RX12_179 w_st_X12_of w_cw_X12_of (c_X12_of x1 (0 : Int32) g) rfl rfl (by decide) (Nat.le_of_ble_eq_true rfl) (by decide) (by decide) (fun v6 => ?_)
      refine J_iald (show Dc Y_X12_fits 79 (.iaload) 1 80 from ⟨by decide +kernel, rfl⟩) (fun v7 => ?_)
      refine J_iload_n rfl rfl (show Dc Y_X12_fits 80 (.iload_n 3) 1 81 from ⟨by decide +kernel, rfl⟩) ?_
      refine J_icmp_ne (tg := 88) (show Dc Y_X12_fits 81 (.if_icmp .ne 7) 3 84 from ⟨by decide +kernel, rfl⟩) (by decide) (fun h => ?_) (fun h => ?_)
      · refine J_iconst (0 : Int32) rfl (show Dc Y_X12_fits 88 (.iconst 0) 1 89 from ⟨by decide +kernel, rfl⟩) ?_
        refine J_mask [false, false, false, false] ?_
        exact j_X12_fits_89 N (0 : Int32) g h0
      · refine J_iconst (1 : Int32) rfl (show Dc Y_X12_fits 84 (.iconst 1) 1 85 from ⟨by decide +kernel, rfl⟩) ?_
        refine J_goto (tg := 89) (show Dc Y_X12_fits 85 (.goto 4) 3 88 from ⟨by decide +kernel, rfl⟩) (by decide) ?_
        refine J_mask [false, false, false, false] ?_
        exact j_X12_fits_89 N (1 : Int32) g h0
    · refine J_aload_n rfl rfl (show Dc Y_X12_fits 90 (.aload_n 0) 1 91 from ⟨by decide +kernel, rfl⟩) ?_
      refine J_getR (show Dc Y_X12_fits 91 (.getfield 13) 3 94 from ⟨by decide +kernel, rfl⟩) w_f_RX12_13 rfl (fun v8 => ?_)
      refine J_iload_n rfl rfl (show Dc Y_X12_fits 94 (.iload_n 1) 1 95 from ⟨by decide +kernel, rfl⟩) ?_
      refine J_iald (show Dc Y_X12_fits 95 (.iaload) 1 96 from ⟨by decide +kernel, rfl⟩) (fun v9 => ?_)
      refine J_iload_n rfl rfl (show Dc Y_X12_fits 96 (.iload_n 3) 1 97 from ⟨by decide +kernel, rfl⟩) ?_
      refine J_icmp_lt (tg := 104) (show Dc Y_X12_fits 97 (.if_icmp .lt 7) 3 100 from ⟨by decide +kernel, rfl⟩) (by decide) (fun h => ?_) (fun h => ?_)
      · refine J_iconst (0 : Int32) rfl (show Dc Y_X12_fits 104 (.iconst 0) 1 105 from ⟨by decide +kernel, rfl⟩) ?_
        refine J_mask [false, false, false, false] ?_
        exact j_X12_fits_105 N (0 : Int32) g h0
      · refine J_iconst (1 : Int32) rfl (show Dc Y_X12_fits 100 (.iconst 1) 1 101 from ⟨by decide +kernel, rfl⟩) ?_
        refine J_goto (tg := 105) (show Dc Y_X12_fits 101 (.goto 4) 3 104 from ⟨by decide +kernel, rfl⟩) (by decide) ?_
        refine J_mask [false, false, false, false] ?_
        exact j_X12_fits_105 N (1 : Int32) g h0
  · refine J_aload_n rfl rfl (show Dc Y_X12_fits 106 (.aload_n 0) 1 107 from ⟨by decide +kernel, rfl⟩) ?_
    refine J_aload_n rfl rfl (show Dc Y_X12_fits 107 (.aload_n 0) 1 108 from ⟨by decide +kernel, rfl⟩) ?_
    refine J_getR (show Dc Y_X12_fits 108 (.getfield 9) 3 111 from ⟨by decide +kernel, rfl⟩) w_f_RX12_9 rfl (fun v10 => ?_)
    refine J_iload_n rfl rfl (show Dc Y_X12_fits 111 (.iload_n 1) 1 112 from ⟨by decide +kernel, rfl⟩) ?_
    refine J_iload_n rfl rfl (show Dc Y_X12_fits 112 (.iload_n 3) 1 113 from ⟨by decide +kernel, rfl⟩) ?_
    refine J_callVi (fun r => r.1) (fun r => r.2) (show Dc Y_X12_fits 113 (.invokevirtual 325) 3 116 from ⟨by decide +kernel, rfl⟩) w_m_RX12_325 w_in_X12_isFirst rfl w_se_X12_isFirst w_cw_X12_isFirst (c_X12_isFirst N x0 v10 x1 x3 g) rfl rfl (by decide) (Nat.le_of_ble_eq_true rfl) (by decide) (by decide) (fun r11 => ?_)
    exact J_retZ (show Dc Y_X12_fits 116 (.ireturn) 1 117 from ⟨by decide +kernel, rfl⟩) rfl (h0 _ _) (by decide) (by decide)

theorem c_X12_fits {l : Launch} {D : ZD} {B0 : Nat} (N : Nat) (x0 : Nat) (x1 : Int32) (x2 : Int32) (x3 : Int32) (g : ZS) : ∀ r, f_X12_fits N x0 x1 x2 x3 g = some r → zCt l D B0 yX12_fits Y_X12_fits [.ref x0, .int x1, .int x2, .int x3] g (some (.int r.1)) r.2 :=
  zCt_ofF (vo := fun r => some (.int r.1)) (so := fun r => r.2) (by decide +kernel) rfl (fun h => by cases h) rfl (Nat.le_of_ble_eq_true rfl) (fun X => j_X12_fits N x0 x1 x2 x3 g (fun _ _ h => h))

theorem j_X12_fitting_57 {X : ZX} (N : Nat) (x0 : Nat) (x1 : Int32) (x2 : Int32) (x4 : Int32) (s0 : Int32)  (g : ZS) {K : ((Int32 × Int32 × ZS) ⊕ ((Int32 × Int32 × ZS) ⊕ (Int32 × ZS))) → Prop} (h0 : ∀ v g, K (.inr (.inr (v, g))) → xK X (some (.int v)) g) (hL4 : ∀ s, K (.inr (.inl s)) → zG Y_X12_fitting X 0 0 4 [some (.ref x0), some (.int s.1), some (.int s.2.1), none, none] [] s.2.2) (hL17 : ∀ s, K (.inl s) → zG Y_X12_fitting X 0 0 17 [some (.ref x0), some (.int x1), some (.int x2), some (.int s.1), some (.int s.2.1)] [] s.2.2) : J Y_X12_fitting X 0 0 57 [some (.ref x0), some (.int x1), some (.int x2), none, some (.int x4)] [.int s0] g (f_X12_fitting_57 N x0 x1 x2 x4 s0 g) K := by
  unfold f_X12_fitting_57
  refine J_istore_n [some (.ref x0), some (.int x1), some (.int x2), some (.int s0), some (.int x4)] (show Dc Y_X12_fitting 57 (.istore_n 3) 1 58 from ⟨by decide +kernel, rfl⟩) rfl (by decide) rfl rfl ?_
  refine J_iinc (1 : Int32) [some (.ref x0), some (.int x1), some (.int x2), some (.int s0), some (.int (x4 + (1 : Int32)))] (show Dc Y_X12_fitting 58 (.iinc 4 1) 3 61 from ⟨by decide +kernel, rfl⟩) rfl rfl (by decide) rfl rfl ?_
  refine J_goto (tg := 17) (show Dc Y_X12_fitting 61 (.goto (-44)) 3 64 from ⟨by decide +kernel, rfl⟩) (by decide) ?_
  exact J_leaf (fun h => hL17 (s0, x4 + (1 : Int32), g) h)

theorem j_X12_fitting_56 {X : ZX} (N : Nat) (x0 : Nat) (x1 : Int32) (x2 : Int32) (x4 : Int32)   (g : ZS) {K : ((Int32 × Int32 × ZS) ⊕ ((Int32 × Int32 × ZS) ⊕ (Int32 × ZS))) → Prop} (h0 : ∀ v g, K (.inr (.inr (v, g))) → xK X (some (.int v)) g) (hL4 : ∀ s, K (.inr (.inl s)) → zG Y_X12_fitting X 0 0 4 [some (.ref x0), some (.int s.1), some (.int s.2.1), none, none] [] s.2.2) (hL17 : ∀ s, K (.inl s) → zG Y_X12_fitting X 0 0 17 [some (.ref x0), some (.int x1), some (.int x2), some (.int s.1), some (.int s.2.1)] [] s.2.2) : J Y_X12_fitting X 0 0 56 [some (.ref x0), some (.int x1), some (.int x2), none, some (.int x4)] [] g (f_X12_fitting_56 N x0 x1 x2 x4 g) K := by
  unfold f_X12_fitting_56
  refine J_iconst (0 : Int32) rfl (show Dc Y_X12_fitting 56 (.iconst 0) 1 57 from ⟨by decide +kernel, rfl⟩) ?_
  exact j_X12_fitting_57 N x0 x1 x2 x4 (0 : Int32) g h0 hL4 hL17

theorem j_X12_fitting_76 {X : ZX} (N : Nat) (x0 : Nat) (x2 : Int32) (s0 : Int32) (s1 : Int32)  (g : ZS) {K : ((Int32 × Int32 × ZS) ⊕ (Int32 × ZS)) → Prop} (h0 : ∀ v g, K (.inr (v, g)) → xK X (some (.int v)) g) (hL4 : ∀ s, K (.inl s) → zG Y_X12_fitting X 0 0 4 [some (.ref x0), some (.int s.1), some (.int s.2.1), none, none] [] s.2.2) : J Y_X12_fitting X 0 0 76 [some (.ref x0), none, some (.int x2), none, none] [.int s1, .int s0] g (f_X12_fitting_76 N x0 x2 s0 s1 g) K := by
  unfold f_X12_fitting_76
  refine J_ior (show Dc Y_X12_fitting 76 (.ior) 1 77 from ⟨by decide +kernel, rfl⟩) ?_
  refine J_istore_n [some (.ref x0), some (.int (s0 ||| s1)), some (.int x2), none, none] (show Dc Y_X12_fitting 77 (.istore_n 1) 1 78 from ⟨by decide +kernel, rfl⟩) rfl (by decide) rfl rfl ?_
  refine J_iinc (1 : Int32) [some (.ref x0), some (.int (s0 ||| s1)), some (.int (x2 + (1 : Int32))), none, none] (show Dc Y_X12_fitting 78 (.iinc 2 1) 3 81 from ⟨by decide +kernel, rfl⟩) rfl rfl (by decide) rfl rfl ?_
  refine J_goto (tg := 4) (show Dc Y_X12_fitting 81 (.goto (-77)) 3 84 from ⟨by decide +kernel, rfl⟩) (by decide) ?_
  exact J_leaf (fun h => hL4 (s0 ||| s1, x2 + (1 : Int32), g) h)

theorem j_X12_fitting_17 {X : ZX} (N : Nat) (x0 : Nat) (x1 : Int32) (x2 : Int32) (x3 : Int32) (x4 : Int32)   (g : ZS) {K : ((Int32 × Int32 × ZS) ⊕ ((Int32 × Int32 × ZS) ⊕ (Int32 × ZS))) → Prop} (h0 : ∀ v g, K (.inr (.inr (v, g))) → xK X (some (.int v)) g) (hL4 : ∀ s, K (.inr (.inl s)) → zG Y_X12_fitting X 0 0 4 [some (.ref x0), some (.int s.1), some (.int s.2.1), none, none] [] s.2.2) (hL17 : ∀ s, K (.inl s) → zG Y_X12_fitting X 0 0 17 [some (.ref x0), some (.int x1), some (.int x2), some (.int s.1), some (.int s.2.1)] [] s.2.2) : J Y_X12_fitting X 0 0 17 [some (.ref x0), some (.int x1), some (.int x2), some (.int x3), some (.int x4)] [] g (f_X12_fitting_17 N x0 x1 x2 x3 x4 g) K := by
  unfold f_X12_fitting_17
  refine J_iload rfl (show Dc Y_X12_fitting 17 (.iload 4) 2 19 from ⟨by decide +kernel, rfl⟩) ?_
  refine J_aload_n rfl rfl (show Dc Y_X12_fitting 19 (.aload_n 0) 1 20 from ⟨by decide +kernel, rfl⟩) ?_
  refine J_getI (show Dc Y_X12_fitting 20 (.getfield 373) 3 23 from ⟨by decide +kernel, rfl⟩) w_f_RX12_373 rfl (fun v1 => ?_)
  refine J_icmp_ge (tg := 64) (show Dc Y_X12_fitting 23 (.if_icmp .ge 41) 3 26 from ⟨by decide +kernel, rfl⟩) (by decide) (fun h => ?_) (fun h => ?_)
  · refine J_map (f := Sum.inr) (fun _ h => h) ?_
    refine J_iload_n rfl rfl (show Dc Y_X12_fitting 64 (.iload_n 1) 1 65 from ⟨by decide +kernel, rfl⟩) ?_
    refine J_iload_n rfl rfl (show Dc Y_X12_fitting 65 (.iload_n 3) 1 66 from ⟨by decide +kernel, rfl⟩) ?_
    refine J_if_eq (tg := 75) (show Dc Y_X12_fitting 66 (.ifCond .eq 9) 3 69 from ⟨by decide +kernel, rfl⟩) (by decide) (fun h => ?_) (fun h => ?_)
    · refine J_iconst (0 : Int32) rfl (show Dc Y_X12_fitting 75 (.iconst 0) 1 76 from ⟨by decide +kernel, rfl⟩) ?_
      refine J_mask [true, false, true, false, false] ?_
      exact j_X12_fitting_76 (K := fun o => K (.inr o)) N x0 x2 x1 (0 : Int32) g h0 hL4
    · refine J_iconst (1 : Int32) rfl (show Dc Y_X12_fitting 69 (.iconst 1) 1 70 from ⟨by decide +kernel, rfl⟩) ?_
      refine J_iload_n rfl rfl (show Dc Y_X12_fitting 70 (.iload_n 2) 1 71 from ⟨by decide +kernel, rfl⟩) ?_
      refine J_ishl (show Dc Y_X12_fitting 71 (.ishl) 1 72 from ⟨by decide +kernel, rfl⟩) ?_
      refine J_goto (tg := 76) (show Dc Y_X12_fitting 72 (.goto 4) 3 75 from ⟨by decide +kernel, rfl⟩) (by decide) ?_
      refine J_mask [true, false, true, false, false] ?_
      exact j_X12_fitting_76 (K := fun o => K (.inr o)) N x0 x2 x1 ((1 : Int32) <<< (x2 &&& 31)) g h0 hL4
  · refine J_iload_n rfl rfl (show Dc Y_X12_fitting 26 (.iload_n 3) 1 27 from ⟨by decide +kernel, rfl⟩) ?_
    refine J_if_eq (tg := 56) (show Dc Y_X12_fitting 27 (.ifCond .eq 29) 3 30 from ⟨by decide +kernel, rfl⟩) (by decide) (fun h => ?_) (fun h => ?_)
    · refine J_mask [true, true, true, false, true] ?_
      exact j_X12_fitting_56 N x0 x1 x2 x4 g h0 hL4 hL17
    · refine J_aload_n rfl rfl (show Dc Y_X12_fitting 30 (.aload_n 0) 1 31 from ⟨by decide +kernel, rfl⟩) ?_
      refine J_iload_n rfl rfl (show Dc Y_X12_fitting 31 (.iload_n 2) 1 32 from ⟨by decide +kernel, rfl⟩) ?_
      refine J_aload_n rfl rfl (show Dc Y_X12_fitting 32 (.aload_n 0) 1 33 from ⟨by decide +kernel, rfl⟩) ?_
      refine J_getR (show Dc Y_X12_fitting 33 (.getfield 90) 3 36 from ⟨by decide +kernel, rfl⟩) w_f_RX12_90 rfl (fun v2 => ?_)
      refine J_iload rfl (show Dc Y_X12_fitting 36 (.iload 4) 2 38 from ⟨by decide +kernel, rfl⟩) ?_
      refine J_iald (show Dc Y_X12_fitting 38 (.iaload) 1 39 from ⟨by decide +kernel, rfl⟩) (fun v3 => ?_)
      refine J_aload_n rfl rfl (show Dc Y_X12_fitting 39 (.aload_n 0) 1 40 from ⟨by decide +kernel, rfl⟩) ?_
      refine J_getR (show Dc Y_X12_fitting 40 (.getfield 93) 3 43 from ⟨by decide +kernel, rfl⟩) w_f_RX12_93 rfl (fun v4 => ?_)
      refine J_iload rfl (show Dc Y_X12_fitting 43 (.iload 4) 2 45 from ⟨by decide +kernel, rfl⟩) ?_
      refine J_iald (show Dc Y_X12_fitting 45 (.iaload) 1 46 from ⟨by decide +kernel, rfl⟩) (fun v5 => ?_)
      refine J_callVi (fun r => r.1) (fun r => r.2) (show Dc Y_X12_fitting 46 (.invokevirtual 376) 3 49 from ⟨by decide +kernel, rfl⟩) w_m_RX12_376 w_in_X12_fits rfl w_se_X12_fits w_cw_X12_fits (c_X12_fits N x0 x2 v3 v5 g) rfl rfl (by decide) (Nat.le_of_ble_eq_true rfl) (by decide) (by decide) (fun r6 => ?_)
      refine J_if_eq (tg := 56) (show Dc Y_X12_fitting 49 (.ifCond .eq 7) 3 52 from ⟨by decide +kernel, rfl⟩) (by decide) (fun h => ?_) (fun h => ?_)
      · refine J_mask [true, true, true, false, true] ?_
        exact j_X12_fitting_56 N x0 x1 x2 x4 r6.2 h0 hL4 hL17
      · refine J_iconst (1 : Int32) rfl (show Dc Y_X12_fitting 52 (.iconst 1) 1 53 from ⟨by decide +kernel, rfl⟩) ?_
        refine J_goto (tg := 57) (show Dc Y_X12_fitting 53 (.goto 4) 3 56 from ⟨by decide +kernel, rfl⟩) (by decide) ?_
        refine J_mask [true, true, true, false, true] ?_
        exact j_X12_fitting_57 N x0 x1 x2 x4 (1 : Int32) r6.2 h0 hL4 hL17

theorem j_X12_fitting_4 {X : ZX} (N : Nat) (x0 : Nat) (x1 : Int32) (x2 : Int32)   (g : ZS) {K : ((Int32 × Int32 × ZS) ⊕ (Int32 × ZS)) → Prop} (h0 : ∀ v g, K (.inr (v, g)) → xK X (some (.int v)) g) (hL4 : ∀ s, K (.inl s) → zG Y_X12_fitting X 0 0 4 [some (.ref x0), some (.int s.1), some (.int s.2.1), none, none] [] s.2.2) : J Y_X12_fitting X 0 0 4 [some (.ref x0), some (.int x1), some (.int x2), none, none] [] g (f_X12_fitting_4 N x0 x1 x2 g) K := by
  unfold f_X12_fitting_4
  refine J_iload_n rfl rfl (show Dc Y_X12_fitting 4 (.iload_n 2) 1 5 from ⟨by decide +kernel, rfl⟩) ?_
  refine J_aload_n rfl rfl (show Dc Y_X12_fitting 5 (.aload_n 0) 1 6 from ⟨by decide +kernel, rfl⟩) ?_
  refine J_getI (show Dc Y_X12_fitting 6 (.getfield 116) 3 9 from ⟨by decide +kernel, rfl⟩) w_f_RX12_116 rfl (fun v1 => ?_)
  refine J_icmp_ge (tg := 84) (show Dc Y_X12_fitting 9 (.if_icmp .ge 75) 3 12 from ⟨by decide +kernel, rfl⟩) (by decide) (fun h => ?_) (fun h => ?_)
  · refine J_map (f := Sum.inr) (fun _ h => h) ?_
    refine J_iload_n rfl rfl (show Dc Y_X12_fitting 84 (.iload_n 1) 1 85 from ⟨by decide +kernel, rfl⟩) ?_
    exact J_reti (show Dc Y_X12_fitting 85 (.ireturn) 1 86 from ⟨by decide +kernel, rfl⟩) rfl (h0 _ _) (by decide) (by decide)
  · refine J_iconst (1 : Int32) rfl (show Dc Y_X12_fitting 12 (.iconst 1) 1 13 from ⟨by decide +kernel, rfl⟩) ?_
    refine J_istore_n [some (.ref x0), some (.int x1), some (.int x2), some (.int (1 : Int32)), none] (show Dc Y_X12_fitting 13 (.istore_n 3) 1 14 from ⟨by decide +kernel, rfl⟩) rfl (by decide) rfl rfl ?_
    refine J_iconst (0 : Int32) rfl (show Dc Y_X12_fitting 14 (.iconst 0) 1 15 from ⟨by decide +kernel, rfl⟩) ?_
    refine J_istore [some (.ref x0), some (.int x1), some (.int x2), some (.int (1 : Int32)), some (.int (0 : Int32))] (show Dc Y_X12_fitting 15 (.istore 4) 2 17 from ⟨by decide +kernel, rfl⟩) (by decide) rfl rfl ?_
    exact J_loop (X := X) (K := K) (uc := fun _ => 0) (us := fun _ => 0) (lf := fun s => [some (.ref x0), some (.int x1), some (.int x2), some (.int s.1), some (.int s.2.1)]) (gf := fun s => s.2.2) (fun s => j_X12_fitting_17 (K := zKl Y_X12_fitting X 17 (fun _ => 0) (fun _ => 0) (fun s => [some (.ref x0), some (.int x1), some (.int x2), some (.int s.1), some (.int s.2.1)]) (fun s => s.2.2) K) N x0 x1 x2 s.1 s.2.1 s.2.2 h0 hL4 (fun s h => h)) N ((1 : Int32), (0 : Int32), g)

theorem j_X12_fitting {X : ZX} (N : Nat) (x0 : Nat)   (g : ZS) {K : (Int32 × ZS) → Prop} (h0 : ∀ v g, K (v, g) → xK X (some (.int v)) g) : J Y_X12_fitting X 0 0 0 [some (.ref x0), none, none, none, none] [] g (f_X12_fitting N x0 g) K := by
  unfold f_X12_fitting
  refine J_iconst (0 : Int32) rfl (show Dc Y_X12_fitting 0 (.iconst 0) 1 1 from ⟨by decide +kernel, rfl⟩) ?_
  refine J_istore_n [some (.ref x0), some (.int (0 : Int32)), none, none, none] (show Dc Y_X12_fitting 1 (.istore_n 1) 1 2 from ⟨by decide +kernel, rfl⟩) rfl (by decide) rfl rfl ?_
  refine J_iconst (0 : Int32) rfl (show Dc Y_X12_fitting 2 (.iconst 0) 1 3 from ⟨by decide +kernel, rfl⟩) ?_
  refine J_istore_n [some (.ref x0), some (.int (0 : Int32)), some (.int (0 : Int32)), none, none] (show Dc Y_X12_fitting 3 (.istore_n 2) 1 4 from ⟨by decide +kernel, rfl⟩) rfl (by decide) rfl rfl ?_
  exact J_loop (X := X) (K := K) (uc := fun _ => 0) (us := fun _ => 0) (lf := fun s => [some (.ref x0), some (.int s.1), some (.int s.2.1), none, none]) (gf := fun s => s.2.2) (fun s => j_X12_fitting_4 (K := zKl Y_X12_fitting X 4 (fun _ => 0) (fun _ => 0) (fun s => [some (.ref x0), some (.int s.1), some (.int s.2.1), none, none]) (fun s => s.2.2) K) N x0 s.1 s.2.1 s.2.2 h0 (fun s h => h)) N ((0 : Int32), (0 : Int32), g)

theorem c_X12_fitting {l : Launch} {D : ZD} {B0 : Nat} (N : Nat) (x0 : Nat) (g : ZS) : ∀ r, f_X12_fitting N x0 g = some r → zCt l D B0 yX12_fitting Y_X12_fitting [.ref x0] g (some (.int r.1)) r.2 :=
  zCt_ofF (vo := fun r => some (.int r.1)) (so := fun r => r.2) (by decide +kernel) rfl (fun h => by cases h) rfl (Nat.le_of_ble_eq_true rfl) (fun X => j_X12_fitting N x0 g (fun _ _ h => h))

theorem j_X12_fits_ {X : ZX} (N : Nat) (x0 : Nat)   (g : ZS) {K : (Int32 × ZS) → Prop} (h0 : ∀ v g, K (v, g) → xK X (some (.int v)) g) : J Y_X12_fits_ X 0 0 0 [some (.ref x0)] [] g (f_X12_fits_ N x0 g) K := by
  unfold f_X12_fits_
  refine J_aload_n rfl rfl (show Dc Y_X12_fits_ 0 (.aload_n 0) 1 1 from ⟨by decide +kernel, rfl⟩) ?_
  refine J_iconst (0 : Int32) rfl (show Dc Y_X12_fits_ 1 (.iconst 0) 1 2 from ⟨by decide +kernel, rfl⟩) ?_
  refine J_putI (show Dc Y_X12_fits_ 2 (.putfield 109) 3 5 from ⟨by decide +kernel, rfl⟩) w_f_RX12_109 rfl rfl (fun g1 => ?_) (fun h => by cases h)
  refine J_aload_n rfl rfl (show Dc Y_X12_fits_ 5 (.aload_n 0) 1 6 from ⟨by decide +kernel, rfl⟩) ?_
  refine J_iconst (0 : Int32) rfl (show Dc Y_X12_fits_ 6 (.iconst 0) 1 7 from ⟨by decide +kernel, rfl⟩) ?_
  refine J_putI (show Dc Y_X12_fits_ 7 (.putfield 113) 3 10 from ⟨by decide +kernel, rfl⟩) w_f_RX12_113 rfl rfl (fun g2 => ?_) (fun h => by cases h)
  refine J_aload_n rfl rfl (show Dc Y_X12_fits_ 10 (.aload_n 0) 1 11 from ⟨by decide +kernel, rfl⟩) ?_
  refine J_aload_n rfl rfl (show Dc Y_X12_fits_ 11 (.aload_n 0) 1 12 from ⟨by decide +kernel, rfl⟩) ?_
  refine J_callVi (fun r => r.1) (fun r => r.2) (show Dc Y_X12_fits_ 12 (.invokevirtual 379) 3 15 from ⟨by decide +kernel, rfl⟩) w_m_RX12_379 w_in_X12_fitting rfl w_se_X12_fitting w_cw_X12_fitting (c_X12_fitting N x0 g2) rfl rfl (by decide) (Nat.le_of_ble_eq_true rfl) (by decide) (by decide) (fun r3 => ?_)
  refine J_callSi (fun r => r) (fun _ => r3.2) (show Dc Y_X12_fits_ 15 (.invokestatic 269) 3 18 from ⟨by decide +kernel, rfl⟩) w_m_RX12_269 w_st_J6_bitCount_0f7a4 w_cw_J6_bitCount_0f7a4 (c_J6_bitCount_0f7a4 r3.1 r3.2) rfl rfl (by decide) (Nat.le_of_ble_eq_true rfl) (by decide) (by decide) (fun v4 => ?_)
  refine J_i2l (show Dc Y_X12_fits_ 18 (.i2l) 1 19 from ⟨by decide +kernel, rfl⟩) ?_
  refine J_callVv (fun r => r) (show Dc Y_X12_fits_ 19 (.invokevirtual 274) 3 22 from ⟨by decide +kernel, rfl⟩) w_m_RX12_274 w_in_X12_tell rfl w_se_X12_tell w_cw_X12_tell (c_X12_tell x0 v4.toInt64 r3.2) rfl rfl (by decide) (Nat.le_of_ble_eq_true rfl) (by decide) (by decide) (fun g5 => ?_)
  refine J_aload_n rfl rfl (show Dc Y_X12_fits_ 22 (.aload_n 0) 1 23 from ⟨by decide +kernel, rfl⟩) ?_
  refine J_callVi (fun r => r.1) (fun r => r.2) (show Dc Y_X12_fits_ 23 (.invokevirtual 379) 3 26 from ⟨by decide +kernel, rfl⟩) w_m_RX12_379 w_in_X12_fitting rfl w_se_X12_fitting w_cw_X12_fitting (c_X12_fitting N x0 g5) rfl rfl (by decide) (Nat.le_of_ble_eq_true rfl) (by decide) (by decide) (fun r6 => ?_)
  exact J_reti (show Dc Y_X12_fits_ 26 (.ireturn) 1 27 from ⟨by decide +kernel, rfl⟩) rfl (h0 _ _) (by decide) (by decide)

theorem c_X12_fits_ {l : Launch} {D : ZD} {B0 : Nat} (N : Nat) (x0 : Nat) (g : ZS) : ∀ r, f_X12_fits_ N x0 g = some r → zCt l D B0 yX12_fits_ Y_X12_fits_ [.ref x0] g (some (.int r.1)) r.2 :=
  zCt_ofF (vo := fun r => some (.int r.1)) (so := fun r => r.2) (by decide +kernel) rfl (fun h => by cases h) rfl (Nat.le_of_ble_eq_true rfl) (fun X => j_X12_fits_ N x0 g (fun _ _ h => h))

theorem j_X12_ask_76 {X : ZX} (N : Nat) (x0 : Nat) (x1 : Int32) (x2 : Int32) (x3 : Int32) (x4 : Int32) (x6 : Int32) (s0 : Int32) (s1 : Int32)  (g : ZS) {K : ((Int32 × Int32 × ZS) ⊕ ((Int32 × Int32 × Int32 × ZS) ⊕ (Int32 × ZS))) → Prop} (h0 : ∀ v g, K (.inr (.inr (v, g))) → xK X (some (.int v)) g) (hL26 : ∀ s, K (.inr (.inl s)) → zG Y_X12_ask X 0 0 26 [some (.ref x0), some (.int x1), some (.int s.1), some (.int s.2.1), some (.int s.2.2.1), none, none] [] s.2.2.2) (hL39 : ∀ s, K (.inl s) → zG Y_X12_ask X 0 0 39 [some (.ref x0), some (.int x1), some (.int x2), some (.int x3), some (.int x4), some (.int s.1), some (.int s.2.1)] [] s.2.2) : J Y_X12_ask X 0 0 76 [some (.ref x0), some (.int x1), some (.int x2), some (.int x3), some (.int x4), none, some (.int x6)] [.int s1, .int s0] g (f_X12_ask_76 N x0 x1 x2 x3 x4 x6 s0 s1 g) K := by
  unfold f_X12_ask_76
  refine J_iadd (show Dc Y_X12_ask 76 (.iadd) 1 77 from ⟨by decide +kernel, rfl⟩) ?_
  refine J_istore [some (.ref x0), some (.int x1), some (.int x2), some (.int x3), some (.int x4), some (.int (s0 + s1)), some (.int x6)] (show Dc Y_X12_ask 77 (.istore 5) 2 79 from ⟨by decide +kernel, rfl⟩) (by decide) rfl rfl ?_
  refine J_iinc (1 : Int32) [some (.ref x0), some (.int x1), some (.int x2), some (.int x3), some (.int x4), some (.int (s0 + s1)), some (.int (x6 + (1 : Int32)))] (show Dc Y_X12_ask 79 (.iinc 6 1) 3 82 from ⟨by decide +kernel, rfl⟩) rfl rfl (by decide) rfl rfl ?_
  refine J_goto (tg := 39) (show Dc Y_X12_ask 82 (.goto (-43)) 3 85 from ⟨by decide +kernel, rfl⟩) (by decide) ?_
  exact J_leaf (fun h => hL39 (s0 + s1, x6 + (1 : Int32), g) h)

theorem j_X12_ask_75 {X : ZX} (N : Nat) (x0 : Nat) (x1 : Int32) (x2 : Int32) (x3 : Int32) (x4 : Int32) (x6 : Int32) (s0 : Int32)  (g : ZS) {K : ((Int32 × Int32 × ZS) ⊕ ((Int32 × Int32 × Int32 × ZS) ⊕ (Int32 × ZS))) → Prop} (h0 : ∀ v g, K (.inr (.inr (v, g))) → xK X (some (.int v)) g) (hL26 : ∀ s, K (.inr (.inl s)) → zG Y_X12_ask X 0 0 26 [some (.ref x0), some (.int x1), some (.int s.1), some (.int s.2.1), some (.int s.2.2.1), none, none] [] s.2.2.2) (hL39 : ∀ s, K (.inl s) → zG Y_X12_ask X 0 0 39 [some (.ref x0), some (.int x1), some (.int x2), some (.int x3), some (.int x4), some (.int s.1), some (.int s.2.1)] [] s.2.2) : J Y_X12_ask X 0 0 75 [some (.ref x0), some (.int x1), some (.int x2), some (.int x3), some (.int x4), none, some (.int x6)] [.int s0] g (f_X12_ask_75 N x0 x1 x2 x3 x4 x6 s0 g) K := by
  unfold f_X12_ask_75
  refine J_iconst (0 : Int32) rfl (show Dc Y_X12_ask 75 (.iconst 0) 1 76 from ⟨by decide +kernel, rfl⟩) ?_
  exact j_X12_ask_76 N x0 x1 x2 x3 x4 x6 s0 (0 : Int32) g h0 hL26 hL39

theorem j_X12_ask_114 {X : ZX} (N : Nat) (x0 : Nat) (x1 : Int32) (x2 : Int32) (x3 : Int32) (x4 : Int32)   (g : ZS) {K : ((Int32 × Int32 × Int32 × ZS) ⊕ (Int32 × ZS)) → Prop} (h0 : ∀ v g, K (.inr (v, g)) → xK X (some (.int v)) g) (hL26 : ∀ s, K (.inl s) → zG Y_X12_ask X 0 0 26 [some (.ref x0), some (.int x1), some (.int s.1), some (.int s.2.1), some (.int s.2.2.1), none, none] [] s.2.2.2) : J Y_X12_ask X 0 0 114 [some (.ref x0), some (.int x1), some (.int x2), some (.int x3), some (.int x4), none, none] [] g (f_X12_ask_114 N x0 x1 x2 x3 x4 g) K := by
  unfold f_X12_ask_114
  refine J_iinc (1 : Int32) [some (.ref x0), some (.int x1), some (.int x2), some (.int x3), some (.int (x4 + (1 : Int32))), none, none] (show Dc Y_X12_ask 114 (.iinc 4 1) 3 117 from ⟨by decide +kernel, rfl⟩) rfl rfl (by decide) rfl rfl ?_
  refine J_goto (tg := 26) (show Dc Y_X12_ask 117 (.goto (-91)) 3 120 from ⟨by decide +kernel, rfl⟩) (by decide) ?_
  exact J_leaf (fun h => hL26 (x2, x3, x4 + (1 : Int32), g) h)

theorem j_X12_ask_39 {X : ZX} (N : Nat) (x0 : Nat) (x1 : Int32) (x2 : Int32) (x3 : Int32) (x4 : Int32) (x5 : Int32) (x6 : Int32)   (g : ZS) {K : ((Int32 × Int32 × ZS) ⊕ ((Int32 × Int32 × Int32 × ZS) ⊕ (Int32 × ZS))) → Prop} (h0 : ∀ v g, K (.inr (.inr (v, g))) → xK X (some (.int v)) g) (hL26 : ∀ s, K (.inr (.inl s)) → zG Y_X12_ask X 0 0 26 [some (.ref x0), some (.int x1), some (.int s.1), some (.int s.2.1), some (.int s.2.2.1), none, none] [] s.2.2.2) (hL39 : ∀ s, K (.inl s) → zG Y_X12_ask X 0 0 39 [some (.ref x0), some (.int x1), some (.int x2), some (.int x3), some (.int x4), some (.int s.1), some (.int s.2.1)] [] s.2.2) : J Y_X12_ask X 0 0 39 [some (.ref x0), some (.int x1), some (.int x2), some (.int x3), some (.int x4), some (.int x5), some (.int x6)] [] g (f_X12_ask_39 N x0 x1 x2 x3 x4 x5 x6 g) K := by
  unfold f_X12_ask_39
  refine J_iload rfl (show Dc Y_X12_ask 39 (.iload 6) 2 41 from ⟨by decide +kernel, rfl⟩) ?_
  refine J_aload_n rfl rfl (show Dc Y_X12_ask 41 (.aload_n 0) 1 42 from ⟨by decide +kernel, rfl⟩) ?_
  refine J_getI (show Dc Y_X12_ask 42 (.getfield 116) 3 45 from ⟨by decide +kernel, rfl⟩) w_f_RX12_116 rfl (fun v1 => ?_)
  refine J_icmp_ge (tg := 85) (show Dc Y_X12_ask 45 (.if_icmp .ge 40) 3 48 from ⟨by decide +kernel, rfl⟩) (by decide) (fun h => ?_) (fun h => ?_)
  · refine J_map (f := Sum.inr) (fun _ h => h) ?_
    refine J_iload rfl (show Dc Y_X12_ask 85 (.iload 5) 2 87 from ⟨by decide +kernel, rfl⟩) ?_
    refine J_iload_n rfl rfl (show Dc Y_X12_ask 87 (.iload_n 1) 1 88 from ⟨by decide +kernel, rfl⟩) ?_
    refine J_callSi (fun r => r) (fun _ => g) (show Dc Y_X12_ask 88 (.invokestatic 269) 3 91 from ⟨by decide +kernel, rfl⟩) w_m_RX12_269 w_st_J6_bitCount_0f7a4 w_cw_J6_bitCount_0f7a4 (c_J6_bitCount_0f7a4 x1 g) rfl rfl (by decide) (Nat.le_of_ble_eq_true rfl) (by decide) (by decide) (fun v2 => ?_)
    refine J_iload rfl (show Dc Y_X12_ask 91 (.iload 5) 2 93 from ⟨by decide +kernel, rfl⟩) ?_
    refine J_isub (show Dc Y_X12_ask 93 (.isub) 1 94 from ⟨by decide +kernel, rfl⟩) ?_
    refine J_callSi (fun r => r) (fun _ => g) (show Dc Y_X12_ask 94 (.invokestatic 250) 3 97 from ⟨by decide +kernel, rfl⟩) w_m_RX12_250 w_st_J9_max_7cf53 w_cw_J9_max_7cf53 (c_J9_max_7cf53 x5 (v2 - x5) g) rfl rfl (by decide) (Nat.le_of_ble_eq_true rfl) (by decide) (by decide) (fun v3 => ?_)
    refine J_istore [some (.ref x0), some (.int x1), some (.int x2), some (.int x3), some (.int x4), some (.int x5), some (.int v3)] (show Dc Y_X12_ask 97 (.istore 6) 2 99 from ⟨by decide +kernel, rfl⟩) (by decide) rfl rfl ?_
    refine J_iload rfl (show Dc Y_X12_ask 99 (.iload 6) 2 101 from ⟨by decide +kernel, rfl⟩) ?_
    refine J_iload_n rfl rfl (show Dc Y_X12_ask 101 (.iload_n 3) 1 102 from ⟨by decide +kernel, rfl⟩) ?_
    refine J_icmp_lt (tg := 108) (show Dc Y_X12_ask 102 (.if_icmp .lt 6) 3 105 from ⟨by decide +kernel, rfl⟩) (by decide) (fun h => ?_) (fun h => ?_)
    · refine J_iload rfl (show Dc Y_X12_ask 108 (.iload 4) 2 110 from ⟨by decide +kernel, rfl⟩) ?_
      refine J_istore_n [some (.ref x0), some (.int x1), some (.int x4), some (.int x3), some (.int x4), some (.int x5), some (.int v3)] (show Dc Y_X12_ask 110 (.istore_n 2) 1 111 from ⟨by decide +kernel, rfl⟩) rfl (by decide) rfl rfl ?_
      refine J_iload rfl (show Dc Y_X12_ask 111 (.iload 6) 2 113 from ⟨by decide +kernel, rfl⟩) ?_
      refine J_istore_n [some (.ref x0), some (.int x1), some (.int x4), some (.int v3), some (.int x4), some (.int x5), some (.int v3)] (show Dc Y_X12_ask 113 (.istore_n 3) 1 114 from ⟨by decide +kernel, rfl⟩) rfl (by decide) rfl rfl ?_
      refine J_mask [true, true, true, true, true, false, false] ?_
      exact j_X12_ask_114 (K := fun o => K (.inr o)) N x0 x1 x4 v3 x4 g h0 hL26
    · refine J_goto (tg := 114) (show Dc Y_X12_ask 105 (.goto 9) 3 108 from ⟨by decide +kernel, rfl⟩) (by decide) ?_
      refine J_mask [true, true, true, true, true, false, false] ?_
      exact j_X12_ask_114 (K := fun o => K (.inr o)) N x0 x1 x2 x3 x4 g h0 hL26
  · refine J_iload rfl (show Dc Y_X12_ask 48 (.iload 5) 2 50 from ⟨by decide +kernel, rfl⟩) ?_
    refine J_iload_n rfl rfl (show Dc Y_X12_ask 50 (.iload_n 1) 1 51 from ⟨by decide +kernel, rfl⟩) ?_
    refine J_iload rfl (show Dc Y_X12_ask 51 (.iload 6) 2 53 from ⟨by decide +kernel, rfl⟩) ?_
    refine J_callSi (fun r => r) (fun _ => g) (show Dc Y_X12_ask 53 (.invokestatic 328) 3 56 from ⟨by decide +kernel, rfl⟩) w_m_RX12_328 w_st_X12_has w_cw_X12_has (c_X12_has x1 x6 g) rfl rfl (by decide) (Nat.le_of_ble_eq_true rfl) (by decide) (by decide) (fun v4 => ?_)
    refine J_if_eq (tg := 75) (show Dc Y_X12_ask 56 (.ifCond .eq 19) 3 59 from ⟨by decide +kernel, rfl⟩) (by decide) (fun h => ?_) (fun h => ?_)
    · refine J_mask [true, true, true, true, true, false, true] ?_
      exact j_X12_ask_75 N x0 x1 x2 x3 x4 x6 x5 g h0 hL26 hL39
    · refine J_aload_n rfl rfl (show Dc Y_X12_ask 59 (.aload_n 0) 1 60 from ⟨by decide +kernel, rfl⟩) ?_
      refine J_iload rfl (show Dc Y_X12_ask 60 (.iload 6) 2 62 from ⟨by decide +kernel, rfl⟩) ?_
      refine J_iconst (0 : Int32) rfl (show Dc Y_X12_ask 62 (.iconst 0) 1 63 from ⟨by decide +kernel, rfl⟩) ?_
      refine J_iload rfl (show Dc Y_X12_ask 63 (.iload 4) 2 65 from ⟨by decide +kernel, rfl⟩) ?_
      refine J_callVi (fun r => r.1) (fun r => r.2) (show Dc Y_X12_ask 65 (.invokevirtual 376) 3 68 from ⟨by decide +kernel, rfl⟩) w_m_RX12_376 w_in_X12_fits rfl w_se_X12_fits w_cw_X12_fits (c_X12_fits N x0 x6 (0 : Int32) x4 g) rfl rfl (by decide) (Nat.le_of_ble_eq_true rfl) (by decide) (by decide) (fun r5 => ?_)
      refine J_if_eq (tg := 75) (show Dc Y_X12_ask 68 (.ifCond .eq 7) 3 71 from ⟨by decide +kernel, rfl⟩) (by decide) (fun h => ?_) (fun h => ?_)
      · refine J_mask [true, true, true, true, true, false, true] ?_
        exact j_X12_ask_75 N x0 x1 x2 x3 x4 x6 x5 r5.2 h0 hL26 hL39
      · refine J_iconst (1 : Int32) rfl (show Dc Y_X12_ask 71 (.iconst 1) 1 72 from ⟨by decide +kernel, rfl⟩) ?_
        refine J_goto (tg := 76) (show Dc Y_X12_ask 72 (.goto 4) 3 75 from ⟨by decide +kernel, rfl⟩) (by decide) ?_
        refine J_mask [true, true, true, true, true, false, true] ?_
        exact j_X12_ask_76 N x0 x1 x2 x3 x4 x6 x5 (1 : Int32) r5.2 h0 hL26 hL39

theorem j_X12_ask_26 {X : ZX} (N : Nat) (x0 : Nat) (x1 : Int32) (x2 : Int32) (x3 : Int32) (x4 : Int32)   (g : ZS) {K : ((Int32 × Int32 × Int32 × ZS) ⊕ (Int32 × ZS)) → Prop} (h0 : ∀ v g, K (.inr (v, g)) → xK X (some (.int v)) g) (hL26 : ∀ s, K (.inl s) → zG Y_X12_ask X 0 0 26 [some (.ref x0), some (.int x1), some (.int s.1), some (.int s.2.1), some (.int s.2.2.1), none, none] [] s.2.2.2) : J Y_X12_ask X 0 0 26 [some (.ref x0), some (.int x1), some (.int x2), some (.int x3), some (.int x4), none, none] [] g (f_X12_ask_26 N x0 x1 x2 x3 x4 g) K := by
  unfold f_X12_ask_26
  refine J_iload rfl (show Dc Y_X12_ask 26 (.iload 4) 2 28 from ⟨by decide +kernel, rfl⟩) ?_
  refine J_bipush (8 : Int32) rfl (show Dc Y_X12_ask 28 (.bipush 8) 2 30 from ⟨by decide +kernel, rfl⟩) ?_
  refine J_icmp_ge (tg := 120) (show Dc Y_X12_ask 30 (.if_icmp .ge 90) 3 33 from ⟨by decide +kernel, rfl⟩) (by decide) (fun h => ?_) (fun h => ?_)
  · refine J_map (f := Sum.inr) (fun _ h => h) ?_
    refine J_aload_n rfl rfl (show Dc Y_X12_ask 120 (.aload_n 0) 1 121 from ⟨by decide +kernel, rfl⟩) ?_
    refine J_iconst (0 : Int32) rfl (show Dc Y_X12_ask 121 (.iconst 0) 1 122 from ⟨by decide +kernel, rfl⟩) ?_
    refine J_putI (show Dc Y_X12_ask 122 (.putfield 113) 3 125 from ⟨by decide +kernel, rfl⟩) w_f_RX12_113 rfl rfl (fun g1 => ?_) (fun h => by cases h)
    refine J_aload_n rfl rfl (show Dc Y_X12_ask 125 (.aload_n 0) 1 126 from ⟨by decide +kernel, rfl⟩) ?_
    refine J_iload_n rfl rfl (show Dc Y_X12_ask 126 (.iload_n 3) 1 127 from ⟨by decide +kernel, rfl⟩) ?_
    refine J_i2l (show Dc Y_X12_ask 127 (.i2l) 1 128 from ⟨by decide +kernel, rfl⟩) ?_
    refine J_callVv (fun r => r) (show Dc Y_X12_ask 128 (.invokevirtual 274) 3 131 from ⟨by decide +kernel, rfl⟩) w_m_RX12_274 w_in_X12_tell rfl w_se_X12_tell w_cw_X12_tell (c_X12_tell x0 x3.toInt64 g1) rfl rfl (by decide) (Nat.le_of_ble_eq_true rfl) (by decide) (by decide) (fun g2 => ?_)
    refine J_iload_n rfl rfl (show Dc Y_X12_ask 131 (.iload_n 2) 1 132 from ⟨by decide +kernel, rfl⟩) ?_
    exact J_reti (show Dc Y_X12_ask 132 (.ireturn) 1 133 from ⟨by decide +kernel, rfl⟩) rfl (h0 _ _) (by decide) (by decide)
  · refine J_iconst (0 : Int32) rfl (show Dc Y_X12_ask 33 (.iconst 0) 1 34 from ⟨by decide +kernel, rfl⟩) ?_
    refine J_istore [some (.ref x0), some (.int x1), some (.int x2), some (.int x3), some (.int x4), some (.int (0 : Int32)), none] (show Dc Y_X12_ask 34 (.istore 5) 2 36 from ⟨by decide +kernel, rfl⟩) (by decide) rfl rfl ?_
    refine J_iconst (0 : Int32) rfl (show Dc Y_X12_ask 36 (.iconst 0) 1 37 from ⟨by decide +kernel, rfl⟩) ?_
    refine J_istore [some (.ref x0), some (.int x1), some (.int x2), some (.int x3), some (.int x4), some (.int (0 : Int32)), some (.int (0 : Int32))] (show Dc Y_X12_ask 37 (.istore 6) 2 39 from ⟨by decide +kernel, rfl⟩) (by decide) rfl rfl ?_
    exact J_loop (X := X) (K := K) (uc := fun _ => 0) (us := fun _ => 0) (lf := fun s => [some (.ref x0), some (.int x1), some (.int x2), some (.int x3), some (.int x4), some (.int s.1), some (.int s.2.1)]) (gf := fun s => s.2.2) (fun s => j_X12_ask_39 (K := zKl Y_X12_ask X 39 (fun _ => 0) (fun _ => 0) (fun s => [some (.ref x0), some (.int x1), some (.int x2), some (.int x3), some (.int x4), some (.int s.1), some (.int s.2.1)]) (fun s => s.2.2) K) N x0 x1 x2 x3 x4 s.1 s.2.1 s.2.2 h0 hL26 (fun s h => h)) N ((0 : Int32), (0 : Int32), g)

theorem j_X12_ask {X : ZX} (N : Nat) (x0 : Nat)   (g : ZS) {K : (Int32 × ZS) → Prop} (h0 : ∀ v g, K (v, g) → xK X (some (.int v)) g) : J Y_X12_ask X 0 0 0 [some (.ref x0), none, none, none, none, none, none] [] g (f_X12_ask N x0 g) K := by
  unfold f_X12_ask
  refine J_aload_n rfl rfl (show Dc Y_X12_ask 0 (.aload_n 0) 1 1 from ⟨by decide +kernel, rfl⟩) ?_
  refine J_iconst (0 : Int32) rfl (show Dc Y_X12_ask 1 (.iconst 0) 1 2 from ⟨by decide +kernel, rfl⟩) ?_
  refine J_putI (show Dc Y_X12_ask 2 (.putfield 109) 3 5 from ⟨by decide +kernel, rfl⟩) w_f_RX12_109 rfl rfl (fun g1 => ?_) (fun h => by cases h)
  refine J_aload_n rfl rfl (show Dc Y_X12_ask 5 (.aload_n 0) 1 6 from ⟨by decide +kernel, rfl⟩) ?_
  refine J_callVi (fun r => r.1) (fun r => r.2) (show Dc Y_X12_ask 6 (.invokevirtual 379) 3 9 from ⟨by decide +kernel, rfl⟩) w_m_RX12_379 w_in_X12_fitting rfl w_se_X12_fitting w_cw_X12_fitting (c_X12_fitting N x0 g1) rfl rfl (by decide) (Nat.le_of_ble_eq_true rfl) (by decide) (by decide) (fun r2 => ?_)
  refine J_istore_n [some (.ref x0), some (.int r2.1), none, none, none, none, none] (show Dc Y_X12_ask 9 (.istore_n 1) 1 10 from ⟨by decide +kernel, rfl⟩) rfl (by decide) rfl rfl ?_
  refine J_iload_n rfl rfl (show Dc Y_X12_ask 10 (.iload_n 1) 1 11 from ⟨by decide +kernel, rfl⟩) ?_
  refine J_if_ne (tg := 17) (show Dc Y_X12_ask 11 (.ifCond .ne 6) 3 14 from ⟨by decide +kernel, rfl⟩) (by decide) (fun h => ?_) (fun h => ?_)
  · refine J_iconst (-1 : Int32) rfl (show Dc Y_X12_ask 17 (.iconst (-1)) 1 18 from ⟨by decide +kernel, rfl⟩) ?_
    refine J_istore_n [some (.ref x0), some (.int r2.1), some (.int (-1 : Int32)), none, none, none, none] (show Dc Y_X12_ask 18 (.istore_n 2) 1 19 from ⟨by decide +kernel, rfl⟩) rfl (by decide) rfl rfl ?_
    refine J_ldcw (1000000 : Int32) w_k_RX12_319 (show Dc Y_X12_ask 19 (.ldc_w 319) 3 22 from ⟨by decide +kernel, rfl⟩) ?_
    refine J_istore_n [some (.ref x0), some (.int r2.1), some (.int (-1 : Int32)), some (.int (1000000 : Int32)), none, none, none] (show Dc Y_X12_ask 22 (.istore_n 3) 1 23 from ⟨by decide +kernel, rfl⟩) rfl (by decide) rfl rfl ?_
    refine J_iconst (0 : Int32) rfl (show Dc Y_X12_ask 23 (.iconst 0) 1 24 from ⟨by decide +kernel, rfl⟩) ?_
    refine J_istore [some (.ref x0), some (.int r2.1), some (.int (-1 : Int32)), some (.int (1000000 : Int32)), some (.int (0 : Int32)), none, none] (show Dc Y_X12_ask 24 (.istore 4) 2 26 from ⟨by decide +kernel, rfl⟩) (by decide) rfl rfl ?_
    exact J_loop (X := X) (K := K) (uc := fun _ => 0) (us := fun _ => 0) (lf := fun s => [some (.ref x0), some (.int r2.1), some (.int s.1), some (.int s.2.1), some (.int s.2.2.1), none, none]) (gf := fun s => s.2.2.2) (fun s => j_X12_ask_26 (K := zKl Y_X12_ask X 26 (fun _ => 0) (fun _ => 0) (fun s => [some (.ref x0), some (.int r2.1), some (.int s.1), some (.int s.2.1), some (.int s.2.2.1), none, none]) (fun s => s.2.2.2) K) N x0 r2.1 s.1 s.2.1 s.2.2.1 s.2.2.2 h0 (fun s h => h)) N ((-1 : Int32), (1000000 : Int32), (0 : Int32), r2.2)
  · refine J_bipush (-2 : Int32) rfl (show Dc Y_X12_ask 14 (.bipush (-2)) 2 16 from ⟨by decide +kernel, rfl⟩) ?_
    exact J_reti (show Dc Y_X12_ask 16 (.ireturn) 1 17 from ⟨by decide +kernel, rfl⟩) rfl (h0 _ _) (by decide) (by decide)

theorem c_X12_ask {l : Launch} {D : ZD} {B0 : Nat} (N : Nat) (x0 : Nat) (g : ZS) : ∀ r, f_X12_ask N x0 g = some r → zCt l D B0 yX12_ask Y_X12_ask [.ref x0] g (some (.int r.1)) r.2 :=
  zCt_ofF (vo := fun r => some (.int r.1)) (so := fun r => r.2) (by decide +kernel) rfl (fun h => by cases h) rfl (Nat.le_of_ble_eq_true rfl) (fun X => j_X12_ask N x0 g (fun _ _ h => h))
