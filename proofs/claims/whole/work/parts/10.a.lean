def f_J6_bitCount_0f7a4 (x0 : Int32)  : Option Int32 :=
  some ((((((((x0 - (((x0.toUInt32 >>> ((1 : Int32).toUInt32 &&& Int32.toUInt32 31)).toInt32) &&& (1431655765 : Int32))) &&& (858993459 : Int32)) + ((((x0 - (((x0.toUInt32 >>> ((1 : Int32).toUInt32 &&& Int32.toUInt32 31)).toInt32) &&& (1431655765 : Int32))).toUInt32 >>> ((2 : Int32).toUInt32 &&& Int32.toUInt32 31)).toInt32) &&& (858993459 : Int32))) + (((((x0 - (((x0.toUInt32 >>> ((1 : Int32).toUInt32 &&& Int32.toUInt32 31)).toInt32) &&& (1431655765 : Int32))) &&& (858993459 : Int32)) + ((((x0 - (((x0.toUInt32 >>> ((1 : Int32).toUInt32 &&& Int32.toUInt32 31)).toInt32) &&& (1431655765 : Int32))).toUInt32 >>> ((2 : Int32).toUInt32 &&& Int32.toUInt32 31)).toInt32) &&& (858993459 : Int32))).toUInt32 >>> ((4 : Int32).toUInt32 &&& Int32.toUInt32 31)).toInt32)) &&& (252645135 : Int32)) + (((((((x0 - (((x0.toUInt32 >>> ((1 : Int32).toUInt32 &&& Int32.toUInt32 31)).toInt32) &&& (1431655765 : Int32))) &&& (858993459 : Int32)) + ((((x0 - (((x0.toUInt32 >>> ((1 : Int32).toUInt32 &&& Int32.toUInt32 31)).toInt32) &&& (1431655765 : Int32))).toUInt32 >>> ((2 : Int32).toUInt32 &&& Int32.toUInt32 31)).toInt32) &&& (858993459 : Int32))) + (((((x0 - (((x0.toUInt32 >>> ((1 : Int32).toUInt32 &&& Int32.toUInt32 31)).toInt32) &&& (1431655765 : Int32))) &&& (858993459 : Int32)) + ((((x0 - (((x0.toUInt32 >>> ((1 : Int32).toUInt32 &&& Int32.toUInt32 31)).toInt32) &&& (1431655765 : Int32))).toUInt32 >>> ((2 : Int32).toUInt32 &&& Int32.toUInt32 31)).toInt32) &&& (858993459 : Int32))).toUInt32 >>> ((4 : Int32).toUInt32 &&& Int32.toUInt32 31)).toInt32)) &&& (252645135 : Int32)).toUInt32 >>> ((8 : Int32).toUInt32 &&& Int32.toUInt32 31)).toInt32)) + ((((((((x0 - (((x0.toUInt32 >>> ((1 : Int32).toUInt32 &&& Int32.toUInt32 31)).toInt32) &&& (1431655765 : Int32))) &&& (858993459 : Int32)) + ((((x0 - (((x0.toUInt32 >>> ((1 : Int32).toUInt32 &&& Int32.toUInt32 31)).toInt32) &&& (1431655765 : Int32))).toUInt32 >>> ((2 : Int32).toUInt32 &&& Int32.toUInt32 31)).toInt32) &&& (858993459 : Int32))) + (((((x0 - (((x0.toUInt32 >>> ((1 : Int32).toUInt32 &&& Int32.toUInt32 31)).toInt32) &&& (1431655765 : Int32))) &&& (858993459 : Int32)) + ((((x0 - (((x0.toUInt32 >>> ((1 : Int32).toUInt32 &&& Int32.toUInt32 31)).toInt32) &&& (1431655765 : Int32))).toUInt32 >>> ((2 : Int32).toUInt32 &&& Int32.toUInt32 31)).toInt32) &&& (858993459 : Int32))).toUInt32 >>> ((4 : Int32).toUInt32 &&& Int32.toUInt32 31)).toInt32)) &&& (252645135 : Int32)) + (((((((x0 - (((x0.toUInt32 >>> ((1 : Int32).toUInt32 &&& Int32.toUInt32 31)).toInt32) &&& (1431655765 : Int32))) &&& (858993459 : Int32)) + ((((x0 - (((x0.toUInt32 >>> ((1 : Int32).toUInt32 &&& Int32.toUInt32 31)).toInt32) &&& (1431655765 : Int32))).toUInt32 >>> ((2 : Int32).toUInt32 &&& Int32.toUInt32 31)).toInt32) &&& (858993459 : Int32))) + (((((x0 - (((x0.toUInt32 >>> ((1 : Int32).toUInt32 &&& Int32.toUInt32 31)).toInt32) &&& (1431655765 : Int32))) &&& (858993459 : Int32)) + ((((x0 - (((x0.toUInt32 >>> ((1 : Int32).toUInt32 &&& Int32.toUInt32 31)).toInt32) &&& (1431655765 : Int32))).toUInt32 >>> ((2 : Int32).toUInt32 &&& Int32.toUInt32 31)).toInt32) &&& (858993459 : Int32))).toUInt32 >>> ((4 : Int32).toUInt32 &&& Int32.toUInt32 31)).toInt32)) &&& (252645135 : Int32)).toUInt32 >>> ((8 : Int32).toUInt32 &&& Int32.toUInt32 31)).toInt32)).toUInt32 >>> ((16 : Int32).toUInt32 &&& Int32.toUInt32 31)).toInt32)) &&& (63 : Int32))

def f_J6_numberOfTrailingZeros_0f7a4_74 (x0 : Int32) (x1 : Int32)  : Option Int32 :=
  some (x1 + ((x0.toUInt32 >>> ((1 : Int32).toUInt32 &&& Int32.toUInt32 31)).toInt32))

def f_J6_numberOfTrailingZeros_0f7a4_62 (x0 : Int32) (x1 : Int32)  : Option Int32 :=
  if x0 ≤ (4 : Int32) then
    f_J6_numberOfTrailingZeros_0f7a4_74 x0 x1
  else
    f_J6_numberOfTrailingZeros_0f7a4_74 ((x0.toUInt32 >>> ((2 : Int32).toUInt32 &&& Int32.toUInt32 31)).toInt32) (x1 + (2 : Int32))

def f_J6_numberOfTrailingZeros_0f7a4_49 (x0 : Int32) (x1 : Int32)  : Option Int32 :=
  if x0 ≤ (16 : Int32) then
    f_J6_numberOfTrailingZeros_0f7a4_62 x0 x1
  else
    f_J6_numberOfTrailingZeros_0f7a4_62 ((x0.toUInt32 >>> ((4 : Int32).toUInt32 &&& Int32.toUInt32 31)).toInt32) (x1 + (4 : Int32))

def f_J6_numberOfTrailingZeros_0f7a4_34 (x0 : Int32) (x1 : Int32)  : Option Int32 :=
  if x0 ≤ (256 : Int32) then
    f_J6_numberOfTrailingZeros_0f7a4_49 x0 x1
  else
    f_J6_numberOfTrailingZeros_0f7a4_49 ((x0.toUInt32 >>> ((8 : Int32).toUInt32 &&& Int32.toUInt32 31)).toInt32) (x1 + (8 : Int32))

def f_J6_numberOfTrailingZeros_0f7a4 (x0 : Int32)  : Option Int32 :=
  if 0 < ((x0 ^^^ (-1 : Int32)) &&& (x0 - (1 : Int32))) then
    if ((x0 ^^^ (-1 : Int32)) &&& (x0 - (1 : Int32))) ≤ (65536 : Int32) then
      f_J6_numberOfTrailingZeros_0f7a4_34 ((x0 ^^^ (-1 : Int32)) &&& (x0 - (1 : Int32))) (1 : Int32)
    else
      f_J6_numberOfTrailingZeros_0f7a4_34 ((((x0 ^^^ (-1 : Int32)) &&& (x0 - (1 : Int32))).toUInt32 >>> ((16 : Int32).toUInt32 &&& Int32.toUInt32 31)).toInt32) ((1 : Int32) + (16 : Int32))
  else
    some (((x0 ^^^ (-1 : Int32)) &&& (x0 - (1 : Int32))) &&& (32 : Int32))

def f_J9_floorMod_7cf53_18 (x2 : Int32)  : Option Int32 :=
  some x2

def f_J9_floorMod_7cf53 (x0 : Int32) (x1 : Int32)  : Option Int32 :=
  if x1 = 0 then none else
  if 0 ≤ (x0 ^^^ x1) then
    f_J9_floorMod_7cf53_18 (x0 - x0 / x1 * x1)
  else
    if (x0 - x0 / x1 * x1) = 0 then
      f_J9_floorMod_7cf53_18 (x0 - x0 / x1 * x1)
    else
      some ((x0 - x0 / x1 * x1) + x1)

def f_J9_max_7cf53_10  (s0 : Int32) : Option Int32 :=
  some s0

def f_J9_max_7cf53 (x0 : Int32) (x1 : Int32)  : Option Int32 :=
  if x0 < x1 then
    f_J9_max_7cf53_10 x1
  else
    f_J9_max_7cf53_10 x0

def f_J9_min_7cf53_10  (s0 : Int32) : Option Int32 :=
  some s0

def f_J9_min_7cf53 (x0 : Int32) (x1 : Int32)  : Option Int32 :=
  if x1 < x0 then
    f_J9_min_7cf53_10 x1
  else
    f_J9_min_7cf53_10 x0

def f_X8_init (x0 : Nat)  (g : ZS) : Option ZS :=
  (zalloc g (23, 80)).bind fun p1 =>
  (zwrR p1.2 x0 8 0 p1.1).bind fun g2 =>
  some g2

def f_X9_init (x0 : Nat)  (g : ZS) : Option ZS :=
  (zalloc g (24, 8)).bind fun p1 =>
  (zwrR p1.2 x0 9 0 p1.1).bind fun g2 =>
  some g2

def f_X5_init (x0 : Nat)  (g : ZS) : Option ZS :=
  (zalloc g (20, 40)).bind fun p1 =>
  (zwrR p1.2 x0 5 0 p1.1).bind fun g2 =>
  (zalloc g2 (20, 40)).bind fun p3 =>
  (zwrR p3.2 x0 5 1 p3.1).bind fun g4 =>
  (zalloc g4 (20, 40)).bind fun p5 =>
  (zwrR p5.2 x0 5 2 p5.1).bind fun g6 =>
  (zalloc g6 (22, 5)).bind fun p7 =>
  (zwrR p7.2 x0 5 3 p7.1).bind fun g8 =>
  some g8

def f_X0_init (x0 : Nat)  (g : ZS) : Option ZS :=
  (zalloc g (20, 8)).bind fun p1 =>
  (zwrR p1.2 x0 0 0 p1.1).bind fun g2 =>
  (zalloc g2 (20, 8)).bind fun p3 =>
  (zwrR p3.2 x0 0 1 p3.1).bind fun g4 =>
  (zalloc g4 (20, 8)).bind fun p5 =>
  (zwrR p5.2 x0 0 2 p5.1).bind fun g6 =>
  (zalloc g6 (20, 8)).bind fun p7 =>
  (zwrR p7.2 x0 0 3 p7.1).bind fun g8 =>
  some g8

def f_X7_init (x0 : Nat)  (g : ZS) : Option ZS :=
  (zalloc g (20, 12)).bind fun p1 =>
  (zwrR p1.2 x0 7 0 p1.1).bind fun g2 =>
  (zalloc g2 (20, 12)).bind fun p3 =>
  (zwrR p3.2 x0 7 1 p3.1).bind fun g4 =>
  (zalloc g4 (20, 8)).bind fun p5 =>
  (zwrR p5.2 x0 7 2 p5.1).bind fun g6 =>
  (zalloc g6 (20, 9)).bind fun p7 =>
  (zwrR p7.2 x0 7 3 p7.1).bind fun g8 =>
  (zalloc g8 (20, 256)).bind fun p9 =>
  (zwrR p9.2 x0 7 4 p9.1).bind fun g10 =>
  some g10

def f_X3_init (x0 : Nat)  (g : ZS) : Option ZS :=
  (zalloc g (20, 12)).bind fun p1 =>
  (zwrR p1.2 x0 3 0 p1.1).bind fun g2 =>
  (zalloc g2 (20, 12)).bind fun p3 =>
  (zwrR p3.2 x0 3 1 p3.1).bind fun g4 =>
  some g4

def f_X12_init (x0 : Nat)  (g : ZS) : Option ZS :=
  (zalloc g (20, 217)).bind fun p1 =>
  (zwrR p1.2 x0 12 0 p1.1).bind fun g2 =>
  (zalloc g2 (20, 6)).bind fun p3 =>
  (zwrR p3.2 x0 12 2 p3.1).bind fun g4 =>
  (zalloc g4 (20, 8)).bind fun p5 =>
  (zast 20 p5.2 p5.1 (0 : Int32) (1 : Int32)).bind fun g6 =>
  (zast 20 g6 p5.1 (1 : Int32) (1 : Int32)).bind fun g7 =>
  (zast 20 g7 p5.1 (2 : Int32) (1 : Int32)).bind fun g8 =>
  (zast 20 g8 p5.1 (3 : Int32) (1 : Int32)).bind fun g9 =>
  (zast 20 g9 p5.1 (4 : Int32) (1 : Int32)).bind fun g10 =>
  (zast 20 g10 p5.1 (5 : Int32) (1 : Int32)).bind fun g11 =>
  (zast 20 g11 p5.1 (6 : Int32) (1 : Int32)).bind fun g12 =>
  (zast 20 g12 p5.1 (7 : Int32) (1 : Int32)).bind fun g13 =>
  (zwrR g13 x0 12 3 p5.1).bind fun g14 =>
  (zalloc g14 (20, 64)).bind fun p15 =>
  (zwrR p15.2 x0 12 4 p15.1).bind fun g16 =>
  (zalloc g16 (20, 4)).bind fun p17 =>
  (zast 20 p17.2 p17.1 (0 : Int32) (1 : Int32)).bind fun g18 =>
  (zast 20 g18 p17.1 (1 : Int32) (1 : Int32)).bind fun g19 =>
  (zast 20 g19 p17.1 (2 : Int32) (1 : Int32)).bind fun g20 =>
  (zast 20 g20 p17.1 (3 : Int32) (1 : Int32)).bind fun g21 =>
  (zwrR g21 x0 12 5 p17.1).bind fun g22 =>
  (zalloc g22 (21, 80)).bind fun p23 =>
  (zwrR p23.2 x0 12 6 p23.1).bind fun g24 =>
  (zalloc g24 (24, 16)).bind fun p25 =>
  (zwrR p25.2 x0 12 8 p25.1).bind fun g26 =>
  (zalloc g26 (20, 80)).bind fun p27 =>
  (zwrR p27.2 x0 12 16 p27.1).bind fun g28 =>
  (zalloc g28 (21, 40)).bind fun p29 =>
  (zwrR p29.2 x0 12 17 p29.1).bind fun g30 =>
  (zalloc g30 (21, 40)).bind fun p31 =>
  (zwrR p31.2 x0 12 18 p31.1).bind fun g32 =>
  (zalloc g32 (20, 7)).bind fun p33 =>
  (zwrR p33.2 x0 12 21 p33.1).bind fun g34 =>
  (zalloc g34 (20, 8)).bind fun p35 =>
  (zwrR p35.2 x0 12 22 p35.1).bind fun g36 =>
  (zalloc g36 (20, 8)).bind fun p37 =>
  (zwrR p37.2 x0 12 23 p37.1).bind fun g38 =>
  (zalloc g38 (20, 8)).bind fun p39 =>
  (zwrR p39.2 x0 12 24 p39.1).bind fun g40 =>
  (zalloc g40 (20, 2604)).bind fun p41 =>
  (zwrR p41.2 x0 12 25 p41.1).bind fun g42 =>
  (zalloc g42 (20, 217)).bind fun p43 =>
  (zwrR p43.2 x0 12 27 p43.1).bind fun g44 =>
  (zalloc g44 (20, 217)).bind fun p45 =>
  (zwrR p45.2 x0 12 28 p45.1).bind fun g46 =>
  (zalloc g46 (20, 240)).bind fun p47 =>
  (zwrR p47.2 x0 12 29 p47.1).bind fun g48 =>
  (zalloc g48 (20, 6)).bind fun p49 =>
  (zwrR p49.2 x0 12 30 p49.1).bind fun g50 =>
  (zalloc g50 (20, 17)).bind fun p51 =>
  (zwrR p51.2 x0 12 31 p51.1).bind fun g52 =>
  (zalloc g52 (20, 8)).bind fun p53 =>
  (zwrR p53.2 x0 12 32 p53.1).bind fun g54 =>
  (zalloc g54 (20, 8)).bind fun p55 =>
  (zwrR p55.2 x0 12 33 p55.1).bind fun g56 =>
  (zalloc g56 (20, 12)).bind fun p57 =>
  (zwrR p57.2 x0 12 34 p57.1).bind fun g58 =>
  (zalloc g58 (20, 12)).bind fun p59 =>
  (zwrR p59.2 x0 12 35 p59.1).bind fun g60 =>
  (zalloc g60 (20, 8)).bind fun p61 =>
  (zwrR p61.2 x0 12 37 p61.1).bind fun g62 =>
  (zalloc g62 (20, 81)).bind fun p63 =>
  (zwrR p63.2 x0 12 38 p63.1).bind fun g64 =>
  (zalloc g64 (20, 12)).bind fun p65 =>
  (zwrR p65.2 x0 12 39 p65.1).bind fun g66 =>
  (zalloc g66 (20, 12)).bind fun p67 =>
  (zwrR p67.2 x0 12 40 p67.1).bind fun g68 =>
  (zalloc g68 (20, 6)).bind fun p69 =>
  (zwrR p69.2 x0 12 42 p69.1).bind fun g70 =>
  (zalloc g70 (20, 434)).bind fun p71 =>
  (zwrR p71.2 x0 12 45 p71.1).bind fun g72 =>
  (zalloc g72 (22, 2)).bind fun p73 =>
  (zwrR p73.2 x0 12 46 p73.1).bind fun g74 =>
  (zalloc g74 (20, 2)).bind fun p75 =>
  (zwrR p75.2 x0 12 47 p75.1).bind fun g76 =>
  some g76

def f_X8_add_16 (N : Nat) (x0 : Nat) (x1 : Int32) (x2 : Int32)  (g : ZS) : Option ((Int32 × ZS) ⊕ (Int32 × ZS)) :=
  if x2 < 0 then
    (
      some ((1 : Int32), g)).map Sum.inr
  else
    (zrdR g x0 8 0).bind fun v1 =>
    (zrdI g x0 8 1).bind fun v2 =>
    (zast 23 g v1 v2 (((((x1.toUInt32 >>> (x2.toUInt32 &&& Int32.toUInt32 31)).toInt32) &&& (255 : Int32)).toUInt32 % 65536).toInt32)).bind fun g3 =>
    (zrdI g3 x0 8 1).bind fun v4 =>
    (zwrI g3 x0 8 1 (v4 + (1 : Int32))).bind fun g5 =>
    some (.inl (x2 + (-8 : Int32), g5))

def f_X8_add (N : Nat) (x0 : Nat) (x1 : Int32)  (g : ZS) : Option (Int32 × ZS) :=
  (zrdI g x0 8 1).bind fun v1 =>
  if (v1 + (4 : Int32)) ≤ (80 : Int32) then
    zloop (fun s => f_X8_add_16 N x0 x1 s.1 s.2) N ((24 : Int32), g)
  else
    some ((0 : Int32), g)

def f_X11_sign_22 (N : Nat)  (s0 : Int32) (g : ZS) : Option (Int32 × ZS) :=
  some (s0, g)

def f_X11_sign (N : Nat) (x0 : Nat) (x1 : Int32)  (g : ZS) : Option (Int32 × ZS) :=
  (zrdR g x0 11 0).bind fun v1 =>
  zvs g v1 8 <| (f_X8_add N v1 x1 g).bind fun r2 =>
  if r2.1 = 0 then
    f_X11_sign_22 N (-1 : Int32) r2.2
  else
    (zrdR r2.2 x0 11 0).bind fun v3 =>
    (zrdI r2.2 v3 8 1).bind fun v4 =>
    f_X11_sign_22 N v4 r2.2

def f_X12_sign_20 (N : Nat) (x0 : Nat) (x1 : Int32) (x2 : Int32)  (g : ZS) : Option ((Int32 × ZS) ⊕ (Int32 × ZS)) :=
  if x2 < 0 then
    (
      (zrdI g x0 12 7).bind fun v1 =>
      some (v1, g)).map Sum.inr
  else
    (zrdR g x0 12 6).bind fun v2 =>
    (zrdI g x0 12 7).bind fun v3 =>
    (zwrI g x0 12 7 (v3 + (1 : Int32))).bind fun g4 =>
    (zast 21 g4 v2 v3 ((x1 >>> (((8 : Int32) * x2) &&& 31)).toInt8.toInt32)).bind fun g5 =>
    some (.inl (x2 + (-1 : Int32), g5))

def f_X12_sign (N : Nat) (x0 : Nat) (x1 : Int32)  (g : ZS) : Option (Int32 × ZS) :=
  (zwrI g x0 12 10 (0 : Int32)).bind fun g1 =>
  (zrdI g1 x0 12 7).bind fun v2 =>
  if (v2 + (4 : Int32)) ≤ (80 : Int32) then
    zloop (fun s => f_X12_sign_20 N x0 x1 s.1 s.2) N ((3 : Int32), g1)
  else
    some ((-1 : Int32), g1)

def f_X11_end_15   (g : ZS) : Option (Int32 × ZS) :=
  some ((0 : Int32), g)

def f_X11_end (x0 : Nat) (x1 : Int32)  (g : ZS) : Option (Int32 × ZS) :=
  if x1 < 0 then
    f_X11_end_15 g
  else
    (zrdR g x0 11 0).bind fun v1 =>
    (zrdI g v1 8 1).bind fun v2 =>
    if x1 ≤ v2 then
      (zrdR g x0 11 0).bind fun v3 =>
      (zwrI g v3 8 1 x1).bind fun g4 =>
      some ((1 : Int32), g4)
    else
      f_X11_end_15 g

def f_X12_in_15  (s0 : Int32) : Option Int32 :=
  if vp_nar .boolean s0 = s0 then some s0 else none

def f_X12_in_14   : Option Int32 :=
  f_X12_in_15 (0 : Int32)

def f_X12_in (x0 : Int32) (x1 : Int32) (x2 : Int32)  : Option Int32 :=
  if x0 < x1 then
    f_X12_in_14
  else
    if x2 < x0 then
      f_X12_in_14
    else
      f_X12_in_15 (1 : Int32)

def f_X12_end (x0 : Nat) (x1 : Int32)  (g : ZS) : Option (Int32 × ZS) :=
  (zwrI g x0 12 10 (0 : Int32)).bind fun g1 =>
  (zrdI g1 x0 12 7).bind fun v2 =>
  (f_X12_in x1 (0 : Int32) v2).bind fun v3 =>
  if v3 = 0 then
    some ((0 : Int32), g1)
  else
    (zwrI g1 x0 12 7 x1).bind fun g4 =>
    some ((1 : Int32), g4)

def f_X11_isHouse_14  (s0 : Int32) : Option Int32 :=
  if vp_nar .boolean s0 = s0 then some s0 else none

def f_X11_isHouse_13   : Option Int32 :=
  f_X11_isHouse_14 (0 : Int32)

def f_X11_isHouse (x0 : Int32)  : Option Int32 :=
  if x0 < 0 then
    f_X11_isHouse_13
  else
    if (4 : Int32) ≤ x0 then
      f_X11_isHouse_13
    else
      f_X11_isHouse_14 (1 : Int32)

def f_X8_at_22  (s0 : Int32) (g : ZS) : Option Int32 :=
  if vp_nar .char s0 = s0 then some s0 else none

def f_X8_at_21   (g : ZS) : Option Int32 :=
  f_X8_at_22 (0 : Int32) g

def f_X8_at (x0 : Nat) (x1 : Int32)  (g : ZS) : Option Int32 :=
  if x1 < 0 then
    f_X8_at_21 g
  else
    (zrdI g x0 8 1).bind fun v1 =>
    if v1 ≤ x1 then
      f_X8_at_21 g
    else
      (zrdR g x0 8 0).bind fun v2 =>
      (zald 23 g v2 x1).bind fun v3 =>
      f_X8_at_22 v3 g

def f_X8_wordAt_26  (s0 : Int32) (g : ZS) : Option Int32 :=
  some s0

def f_X8_wordAt_25   (g : ZS) : Option Int32 :=
  f_X8_wordAt_26 (-1 : Int32) g

def f_X8_wordAt (x0 : Nat) (x1 : Int32)  (g : ZS) : Option Int32 :=
  zvs g x0 8 <| (f_X8_at x0 x1 g).bind fun v1 =>
  if v1 < (97 : Int32) then
    f_X8_wordAt_25 g
  else
    if (104 : Int32) < v1 then
      f_X8_wordAt_25 g
    else
      f_X8_wordAt_26 (v1 - (97 : Int32)) g

def f_X8_badInTale_25 (N : Nat) (x1 : Int32)  (g : ZS) : Option Int32 :=
  some x1

def f_X8_badInTale_2 (N : Nat) (x0 : Nat) (x1 : Int32)  (g : ZS) : Option ((Int32) ⊕ Int32) :=
  (zrdI g x0 8 1).bind fun v1 =>
  if v1 ≤ x1 then
    (
      some (-1 : Int32)).map Sum.inr
  else
    if (16 : Int32) ≤ x1 then
      (
      f_X8_badInTale_25 N x1 g).map Sum.inr
    else
      zvs g x0 8 <| (f_X8_wordAt x0 x1 g).bind fun v2 =>
      if v2 = (-1 : Int32) then
        (
        f_X8_badInTale_25 N x1 g).map Sum.inr
      else
        some (.inl (x1 + (1 : Int32)))

def f_X8_badInTale (N : Nat) (x0 : Nat)  (g : ZS) : Option Int32 :=
  zloop (fun s => f_X8_badInTale_2 N x0 s g) N (0 : Int32)

def f_X2_furnish_35 (N : Nat) (x0 : Nat) (x1 : Int32) (x2 : Nat)  (g : ZS) : Option ZS :=
  (zrdR g x0 2 1).bind fun v1 =>
  (zrdI g x2 8 1).bind fun v2 =>
  (zast 20 g v1 x1 v2).bind fun g3 =>
  some g3

def f_X2_furnish_2 (N : Nat) (x0 : Nat) (x1 : Int32) (x2 : Nat) (x3 : Int32)  (g : ZS) : Option ((Int32 × ZS) ⊕ ZS) :=
  (zrdI g x2 8 1).bind fun v1 =>
  if v1 ≤ x3 then
    (
    f_X2_furnish_35 N x0 x1 x2 g).map Sum.inr
  else
    if (16 : Int32) ≤ x3 then
      (
      f_X2_furnish_35 N x0 x1 x2 g).map Sum.inr
    else
      (zrdR g x0 2 0).bind fun v2 =>
      (zaald 27 g v2 x1).bind fun v3 =>
      zvs g x2 8 <| (f_X8_wordAt x2 x3 g).bind fun v4 =>
      (zast 20 g v3 x3 v4).bind fun g5 =>
      some (.inl (x3 + (1 : Int32), g5))

def f_X2_furnish (N : Nat) (x0 : Nat) (x1 : Int32) (x2 : Nat)  (g : ZS) : Option ZS :=
  zloop (fun s => f_X2_furnish_2 N x0 x1 x2 s.1 s.2) N ((0 : Int32), g)

def f_X11_readHouse (N : Nat) (x0 : Nat) (x1 : Int32)  (g : ZS) : Option (Int32 × ZS) :=
  (zrdR g x0 11 0).bind fun v1 =>
  (zrdI g v1 8 1).bind fun v2 =>
  if v2 = 0 then
    some ((-1 : Int32), g)
  else
    (zrdR g x0 11 0).bind fun v3 =>
    zvs g v3 8 <| (f_X8_badInTale N v3 g).bind fun v4 =>
    if v4 = (-1 : Int32) then
      (zrdR g x0 11 2).bind fun v5 =>
      (zrdR g x0 11 0).bind fun v6 =>
      zvs g v5 2 <| (f_X2_furnish N v5 x1 v6 g).bind fun g7 =>
      (zrdR g7 x0 11 0).bind fun v8 =>
      (zrdI g7 v8 8 1).bind fun v9 =>
      some (v9, g7)
    else
      some ((-1 : Int32) - v4, g)

def f_X11_house_17 (N : Nat) (x0 : Nat) (s0 : Int32) (g : ZS) : Option (Int32 × ZS) :=
  (zrdR g x0 11 0).bind fun v1 =>
  (zwrI g v1 8 1 (0 : Int32)).bind fun g2 =>
  some (s0, g2)

def f_X11_house (N : Nat) (x0 : Nat) (x1 : Int32)  (g : ZS) : Option (Int32 × ZS) :=
  (f_X11_isHouse x1).bind fun v1 =>
  if v1 = 0 then
    f_X11_house_17 N x0 (-100 : Int32) g
  else
    zvs g x0 11 <| (f_X11_readHouse N x0 x1 g).bind fun r2 =>
    f_X11_house_17 N x0 r2.1 r2.2

def f_X12_isHouse (x0 : Int32)  : Option Int32 :=
  (f_X12_in x0 (0 : Int32) (3 : Int32)).bind fun v1 =>
  if vp_nar .boolean v1 = v1 then some v1 else none

def f_X12_begin (x0 : Nat) (x1 : Nat) (x2 : Int32) (x3 : Int32)  (g : ZS) : Option ZS :=
  (zwrR g x0 12 11 x1).bind fun g1 =>
  (zwrI g1 x0 12 12 x2).bind fun g2 =>
  (zwrI g2 x0 12 13 x3).bind fun g3 =>
  (zwrI g3 x0 12 14 (0 : Int32)).bind fun g4 =>
  (zwrI g4 x0 12 15 (-1 : Int32)).bind fun g5 =>
  some g5

def f_X12_beginText (x0 : Nat) (x1 : Int32)  (g : ZS) : Option ZS :=
  (zrdR g x0 12 6).bind fun v1 =>
  (zrdI g x0 12 7).bind fun v2 =>
  zvs g x0 12 <| (f_X12_begin x0 v1 v2 x1 g).bind fun g3 =>
  (zwrI g3 x0 12 7 (0 : Int32)).bind fun g4 =>
  some g4

def f_X12_fine_13  (s0 : Int32) (g : ZS) : Option Int32 :=
  if vp_nar .boolean s0 = s0 then some s0 else none

def f_X12_fine (x0 : Nat)  (g : ZS) : Option Int32 :=
  (zrdI g x0 12 15).bind fun v1 =>
  if v1 = (-1 : Int32) then
    f_X12_fine_13 (1 : Int32) g
  else
    f_X12_fine_13 (0 : Int32) g

def f_X12_here_39  (s0 : Int32) (g : ZS) : Option Int32 :=
  some s0

def f_X12_here_38   (g : ZS) : Option Int32 :=
  f_X12_here_39 (-1 : Int32) g

def f_X12_here (x0 : Nat)  (g : ZS) : Option Int32 :=
  (zrdI g x0 12 14).bind fun v1 =>
  (zrdI g x0 12 12).bind fun v2 =>
  if v2 ≤ v1 then
    f_X12_here_38 g
  else
    (zrdI g x0 12 14).bind fun v3 =>
    (zrdI g x0 12 13).bind fun v4 =>
    if v4 ≤ v3 then
      f_X12_here_38 g
    else
      (zrdR g x0 12 11).bind fun v5 =>
      (zrdI g x0 12 14).bind fun v6 =>
      (zald 21 g v5 v6).bind fun v7 =>
      f_X12_here_39 (v7 &&& (255 : Int32)) g

def f_X12_fault_12   (g : ZS) : Option ZS :=
  some g

def f_X12_fault (x0 : Nat) (x1 : Int32)  (g : ZS) : Option ZS :=
  zvs g x0 12 <| (f_X12_fine x0 g).bind fun v1 =>
  if v1 = 0 then
    f_X12_fault_12 g
  else
    (zwrI g x0 12 15 x1).bind fun g2 =>
    f_X12_fault_12 g2

def f_X12_oneOf (x0 : Nat) (x1 : Int32) (x2 : Int32)  (g : ZS) : Option (Int32 × ZS) :=
  zvs g x0 12 <| (f_X12_fine x0 g).bind fun v1 =>
  if v1 = 0 then
    some ((0 : Int32), g)
  else
    zvs g x0 12 <| (f_X12_here x0 g).bind fun v2 =>
    (f_X12_in v2 x1 ((x1 + x2) - (1 : Int32))).bind fun v3 =>
    if v3 = 0 then
      (zrdI g x0 12 14).bind fun v9 =>
      zvs g x0 12 <| (f_X12_fault x0 v9 g).bind fun g10 =>
      some ((0 : Int32), g10)
    else
      (zrdI g x0 12 14).bind fun v4 =>
      (zwrI g x0 12 14 (v4 + (1 : Int32))).bind fun g5 =>
      (zrdR g5 x0 12 11).bind fun v6 =>
      (zrdI g5 x0 12 14).bind fun v7 =>
      (zald 21 g5 v6 (v7 - (1 : Int32))).bind fun v8 =>
      some (v8 - x1, g5)

def f_X12_wasRight_19 (x0 : Nat)  (g : ZS) : Option (Int32 × ZS) :=
  zvs g x0 12 <| (f_X12_fine x0 g).bind fun v1 =>
  if vp_nar .boolean v1 = v1 then some (v1, g) else none

def f_X12_wasRight (x0 : Nat)  (g : ZS) : Option (Int32 × ZS) :=
  (zrdI g x0 12 14).bind fun v1 =>
  (zrdI g x0 12 12).bind fun v2 =>
  if v2 ≤ v1 then
    f_X12_wasRight_19 x0 g
  else
    (zrdI g x0 12 14).bind fun v3 =>
    zvs g x0 12 <| (f_X12_fault x0 v3 g).bind fun g4 =>
    f_X12_wasRight_19 x0 g4

def f_X12_readWords_28 (N : Nat) (x0 : Nat) (x1 : Int32) (x2 : Int32)  (g : ZS) : Option ((Int32 × ZS) ⊕ (Int32 × ZS)) :=
  (zrdR g x0 12 16).bind fun v1 =>
  zvs g x0 12 <| (f_X12_oneOf x0 (97 : Int32) (8 : Int32) g).bind fun r2 =>
  (zast 20 r2.2 v1 x2 r2.1).bind fun g3 =>
  some (.inl (x2 + (1 : Int32), g3))

def f_X12_readWords_65 (N : Nat)  (s0 : Int32) (g : ZS) : Option (Int32 × ZS) :=
  some (s0, g)

def f_X12_readWords_48 (N : Nat) (x0 : Nat) (x2 : Int32)  (g : ZS) : Option (Int32 × ZS) :=
  zvs g x0 12 <| (f_X12_wasRight x0 g).bind fun r1 =>
  if r1.1 = 0 then
    (zrdI r1.2 x0 12 15).bind fun v2 =>
    f_X12_readWords_65 N ((-1 : Int32) - v2) r1.2
  else
    f_X12_readWords_65 N x2 r1.2

def f_X12_readWords_8 (N : Nat) (x0 : Nat) (x1 : Int32) (x2 : Int32)  (g : ZS) : Option ((Int32 × ZS) ⊕ (Int32 × ZS)) :=
  zvs g x0 12 <| (f_X12_fine x0 g).bind fun v1 =>
  if v1 = 0 then
    (
    f_X12_readWords_48 N x0 x2 g).map Sum.inr
  else
    if x2 < x1 then
      f_X12_readWords_28 N x0 x1 x2 g
    else
      zvs g x0 12 <| (f_X12_here x0 g).bind fun v2 =>
      if v2 = (-1 : Int32) then
        (
        f_X12_readWords_48 N x0 x2 g).map Sum.inr
      else
        f_X12_readWords_28 N x0 x1 x2 g

def f_X12_readWords (N : Nat) (x0 : Nat) (x1 : Int32)  (g : ZS) : Option (Int32 × ZS) :=
  zvs g x0 12 <| (f_X12_beginText x0 (16 : Int32) g).bind fun g1 =>
  zloop (fun s => f_X12_readWords_8 N x0 x1 s.1 s.2) N ((0 : Int32), g1)

def f_X12_house_41 (N : Nat) (x0 : Nat) (x1 : Int32) (x2 : Int32) (x3 : Int32)  (g : ZS) : Option ((Int32 × ZS) ⊕ (Int32 × ZS)) :=
  if x2 ≤ x3 then
    (
      some (x2, g)).map Sum.inr
  else
    (zrdR g x0 12 4).bind fun v1 =>
    (zrdR g x0 12 16).bind fun v2 =>
    (zald 20 g v2 x3).bind fun v3 =>
    (zast 20 g v1 (((16 : Int32) * x1) + x3) v3).bind fun g4 =>
    some (.inl (x3 + (1 : Int32), g4))

def f_X12_house (N : Nat) (x0 : Nat) (x1 : Int32)  (g : ZS) : Option (Int32 × ZS) :=
  (zwrI g x0 12 10 (0 : Int32)).bind fun g1 =>
  (f_X12_isHouse x1).bind fun v2 =>
  if v2 = 0 then
    (zwrI g1 x0 12 7 (0 : Int32)).bind fun g6 =>
    some ((-100 : Int32), g6)
  else
    zvs g1 x0 12 <| (f_X12_readWords N x0 (1 : Int32) g1).bind fun r3 =>
    if 0 ≤ r3.1 then
      (zrdR r3.2 x0 12 5).bind fun v4 =>
      (zast 20 r3.2 v4 x1 r3.1).bind fun g5 =>
      zloop (fun s => f_X12_house_41 N x0 x1 r3.1 s.1 s.2) N ((0 : Int32), g5)
    else
      some (r3.1, r3.2)

def f_X8_digitAt_26  (s0 : Int32) (g : ZS) : Option Int32 :=
  some s0

def f_X8_digitAt_25   (g : ZS) : Option Int32 :=
  f_X8_digitAt_26 (-1 : Int32) g

def f_X8_digitAt (x0 : Nat) (x1 : Int32)  (g : ZS) : Option Int32 :=
  zvs g x0 8 <| (f_X8_at x0 x1 g).bind fun v1 =>
  if v1 < (48 : Int32) then
    f_X8_digitAt_25 g
  else
    if (57 : Int32) < v1 then
      f_X8_digitAt_25 g
    else
      f_X8_digitAt_26 (v1 - (48 : Int32)) g

def f_X11_standsInParrots_45  (s0 : Int32) (g : ZS) : Option Int32 :=
  if vp_nar .boolean s0 = s0 then some s0 else none

def f_X11_standsInParrots_44   (g : ZS) : Option Int32 :=
  f_X11_standsInParrots_45 (0 : Int32) g

def f_X11_standsInParrots_69  (s0 : Int32) (g : ZS) : Option Int32 :=
  if vp_nar .boolean s0 = s0 then some s0 else none

def f_X11_standsInParrots_68   (g : ZS) : Option Int32 :=
  f_X11_standsInParrots_69 (0 : Int32) g

def f_X11_standsInParrots_88  (s0 : Int32) (g : ZS) : Option Int32 :=
  if vp_nar .boolean s0 = s0 then some s0 else none

def f_X11_standsInParrots (x0 : Nat) (x1 : Int32)  (g : ZS) : Option Int32 :=
  (zrdR g x0 11 0).bind fun v1 =>
  zvs g v1 8 <| (f_X8_digitAt v1 x1 g).bind fun v2 =>
  if (x1 - x1 / (3 : Int32) * (3 : Int32)) = 0 then
    if v2 < 0 then
      f_X11_standsInParrots_44 g
    else
      if (4 : Int32) ≤ v2 then
        f_X11_standsInParrots_44 g
      else
        (zrdR g x0 11 6).bind fun v5 =>
        (zrdI g v5 6 1).bind fun v6 =>
        if (6 : Int32) ≤ (v6 + (x1 / (3 : Int32))) then
          f_X11_standsInParrots_44 g
        else
          f_X11_standsInParrots_45 (1 : Int32) g
  else
    if (x1 - x1 / (3 : Int32) * (3 : Int32)) = (1 : Int32) then
      if v2 < (1 : Int32) then
        f_X11_standsInParrots_68 g
      else
        if (8 : Int32) < v2 then
          f_X11_standsInParrots_68 g
        else
          f_X11_standsInParrots_69 (1 : Int32) g
    else
      (zrdR g x0 11 0).bind fun v3 =>
      zvs g v3 8 <| (f_X8_at v3 x1 g).bind fun v4 =>
      if v4 = (59 : Int32) then
        f_X11_standsInParrots_88 (1 : Int32) g
      else
        f_X11_standsInParrots_88 (0 : Int32) g

theorem j_J6_bitCount_0f7a4 {X : ZX} (x0 : Int32)   (g : ZS) {K : Int32 → Prop} (h0 : ∀ v, K v → xK X (some (.int v)) g) : J Y_J6_bitCount_0f7a4 X 0 0 0 [some (.int x0)] [] g (f_J6_bitCount_0f7a4 x0) K := by
  unfold f_J6_bitCount_0f7a4
  refine J_iload_n rfl rfl (show Dc Y_J6_bitCount_0f7a4 0 (.iload_n 0) 1 1 from ⟨by decide +kernel, rfl⟩) ?_
  refine J_iload_n rfl rfl (show Dc Y_J6_bitCount_0f7a4 1 (.iload_n 0) 1 2 from ⟨by decide +kernel, rfl⟩) ?_
  refine J_iconst (1 : Int32) rfl (show Dc Y_J6_bitCount_0f7a4 2 (.iconst 1) 1 3 from ⟨by decide +kernel, rfl⟩) ?_
  refine J_iushr (show Dc Y_J6_bitCount_0f7a4 3 (.iushr) 1 4 from ⟨by decide +kernel, rfl⟩) ?_
  refine J_ldcw (1431655765 : Int32) w_k_RJ6_265 (show Dc Y_J6_bitCount_0f7a4 4 (.ldc_w 265) 3 7 from ⟨by decide +kernel, rfl⟩) ?_
  refine J_iand (show Dc Y_J6_bitCount_0f7a4 7 (.iand) 1 8 from ⟨by decide +kernel, rfl⟩) ?_
  refine J_isub (show Dc Y_J6_bitCount_0f7a4 8 (.isub) 1 9 from ⟨by decide +kernel, rfl⟩) ?_
  refine J_istore_n [some (.int (x0 - (((x0.toUInt32 >>> ((1 : Int32).toUInt32 &&& Int32.toUInt32 31)).toInt32) &&& (1431655765 : Int32))))] (show Dc Y_J6_bitCount_0f7a4 9 (.istore_n 0) 1 10 from ⟨by decide +kernel, rfl⟩) rfl (by decide) rfl rfl ?_
  refine J_iload_n rfl rfl (show Dc Y_J6_bitCount_0f7a4 10 (.iload_n 0) 1 11 from ⟨by decide +kernel, rfl⟩) ?_
  refine J_ldcw (858993459 : Int32) w_k_RJ6_266 (show Dc Y_J6_bitCount_0f7a4 11 (.ldc_w 266) 3 14 from ⟨by decide +kernel, rfl⟩) ?_
  refine J_iand (show Dc Y_J6_bitCount_0f7a4 14 (.iand) 1 15 from ⟨by decide +kernel, rfl⟩) ?_
  refine J_iload_n rfl rfl (show Dc Y_J6_bitCount_0f7a4 15 (.iload_n 0) 1 16 from ⟨by decide +kernel, rfl⟩) ?_
  refine J_iconst (2 : Int32) rfl (show Dc Y_J6_bitCount_0f7a4 16 (.iconst 2) 1 17 from ⟨by decide +kernel, rfl⟩) ?_
  refine J_iushr (show Dc Y_J6_bitCount_0f7a4 17 (.iushr) 1 18 from ⟨by decide +kernel, rfl⟩) ?_
  refine J_ldcw (858993459 : Int32) w_k_RJ6_266 (show Dc Y_J6_bitCount_0f7a4 18 (.ldc_w 266) 3 21 from ⟨by decide +kernel, rfl⟩) ?_
  refine J_iand (show Dc Y_J6_bitCount_0f7a4 21 (.iand) 1 22 from ⟨by decide +kernel, rfl⟩) ?_
  refine J_iadd (show Dc Y_J6_bitCount_0f7a4 22 (.iadd) 1 23 from ⟨by decide +kernel, rfl⟩) ?_
  refine J_istore_n [some (.int (((x0 - (((x0.toUInt32 >>> ((1 : Int32).toUInt32 &&& Int32.toUInt32 31)).toInt32) &&& (1431655765 : Int32))) &&& (858993459 : Int32)) + ((((x0 - (((x0.toUInt32 >>> ((1 : Int32).toUInt32 &&& Int32.toUInt32 31)).toInt32) &&& (1431655765 : Int32))).toUInt32 >>> ((2 : Int32).toUInt32 &&& Int32.toUInt32 31)).toInt32) &&& (858993459 : Int32))))] (show Dc Y_J6_bitCount_0f7a4 23 (.istore_n 0) 1 24 from ⟨by decide +kernel, rfl⟩) rfl (by decide) rfl rfl ?_
  refine J_iload_n rfl rfl (show Dc Y_J6_bitCount_0f7a4 24 (.iload_n 0) 1 25 from ⟨by decide +kernel, rfl⟩) ?_
  refine J_iload_n rfl rfl (show Dc Y_J6_bitCount_0f7a4 25 (.iload_n 0) 1 26 from ⟨by decide +kernel, rfl⟩) ?_
  refine J_iconst (4 : Int32) rfl (show Dc Y_J6_bitCount_0f7a4 26 (.iconst 4) 1 27 from ⟨by decide +kernel, rfl⟩) ?_
  refine J_iushr (show Dc Y_J6_bitCount_0f7a4 27 (.iushr) 1 28 from ⟨by decide +kernel, rfl⟩) ?_
  refine J_iadd (show Dc Y_J6_bitCount_0f7a4 28 (.iadd) 1 29 from ⟨by decide +kernel, rfl⟩) ?_
  refine J_ldcw (252645135 : Int32) w_k_RJ6_267 (show Dc Y_J6_bitCount_0f7a4 29 (.ldc_w 267) 3 32 from ⟨by decide +kernel, rfl⟩) ?_
  refine J_iand (show Dc Y_J6_bitCount_0f7a4 32 (.iand) 1 33 from ⟨by decide +kernel, rfl⟩) ?_
  refine J_istore_n [some (.int (((((x0 - (((x0.toUInt32 >>> ((1 : Int32).toUInt32 &&& Int32.toUInt32 31)).toInt32) &&& (1431655765 : Int32))) &&& (858993459 : Int32)) + ((((x0 - (((x0.toUInt32 >>> ((1 : Int32).toUInt32 &&& Int32.toUInt32 31)).toInt32) &&& (1431655765 : Int32))).toUInt32 >>> ((2 : Int32).toUInt32 &&& Int32.toUInt32 31)).toInt32) &&& (858993459 : Int32))) + (((((x0 - (((x0.toUInt32 >>> ((1 : Int32).toUInt32 &&& Int32.toUInt32 31)).toInt32) &&& (1431655765 : Int32))) &&& (858993459 : Int32)) + ((((x0 - (((x0.toUInt32 >>> ((1 : Int32).toUInt32 &&& Int32.toUInt32 31)).toInt32) &&& (1431655765 : Int32))).toUInt32 >>> ((2 : Int32).toUInt32 &&& Int32.toUInt32 31)).toInt32) &&& (858993459 : Int32))).toUInt32 >>> ((4 : Int32).toUInt32 &&& Int32.toUInt32 31)).toInt32)) &&& (252645135 : Int32)))] (show Dc Y_J6_bitCount_0f7a4 33 (.istore_n 0) 1 34 from ⟨by decide +kernel, rfl⟩) rfl (by decide) rfl rfl ?_
  refine J_iload_n rfl rfl (show Dc Y_J6_bitCount_0f7a4 34 (.iload_n 0) 1 35 from ⟨by decide +kernel, rfl⟩) ?_
  refine J_iload_n rfl rfl (show Dc Y_J6_bitCount_0f7a4 35 (.iload_n 0) 1 36 from ⟨by decide +kernel, rfl⟩) ?_
  refine J_bipush (8 : Int32) rfl (show Dc Y_J6_bitCount_0f7a4 36 (.bipush 8) 2 38 from ⟨by decide +kernel, rfl⟩) ?_
  refine J_iushr (show Dc Y_J6_bitCount_0f7a4 38 (.iushr) 1 39 from ⟨by decide +kernel, rfl⟩) ?_
  refine J_iadd (show Dc Y_J6_bitCount_0f7a4 39 (.iadd) 1 40 from ⟨by decide +kernel, rfl⟩) ?_
  refine J_istore_n [some (.int ((((((x0 - (((x0.toUInt32 >>> ((1 : Int32).toUInt32 &&& Int32.toUInt32 31)).toInt32) &&& (1431655765 : Int32))) &&& (858993459 : Int32)) + ((((x0 - (((x0.toUInt32 >>> ((1 : Int32).toUInt32 &&& Int32.toUInt32 31)).toInt32) &&& (1431655765 : Int32))).toUInt32 >>> ((2 : Int32).toUInt32 &&& Int32.toUInt32 31)).toInt32) &&& (858993459 : Int32))) + (((((x0 - (((x0.toUInt32 >>> ((1 : Int32).toUInt32 &&& Int32.toUInt32 31)).toInt32) &&& (1431655765 : Int32))) &&& (858993459 : Int32)) + ((((x0 - (((x0.toUInt32 >>> ((1 : Int32).toUInt32 &&& Int32.toUInt32 31)).toInt32) &&& (1431655765 : Int32))).toUInt32 >>> ((2 : Int32).toUInt32 &&& Int32.toUInt32 31)).toInt32) &&& (858993459 : Int32))).toUInt32 >>> ((4 : Int32).toUInt32 &&& Int32.toUInt32 31)).toInt32)) &&& (252645135 : Int32)) + (((((((x0 - (((x0.toUInt32 >>> ((1 : Int32).toUInt32 &&& Int32.toUInt32 31)).toInt32) &&& (1431655765 : Int32))) &&& (858993459 : Int32)) + ((((x0 - (((x0.toUInt32 >>> ((1 : Int32).toUInt32 &&& Int32.toUInt32 31)).toInt32) &&& (1431655765 : Int32))).toUInt32 >>> ((2 : Int32).toUInt32 &&& Int32.toUInt32 31)).toInt32) &&& (858993459 : Int32))) + (((((x0 - (((x0.toUInt32 >>> ((1 : Int32).toUInt32 &&& Int32.toUInt32 31)).toInt32) &&& (1431655765 : Int32))) &&& (858993459 : Int32)) + ((((x0 - (((x0.toUInt32 >>> ((1 : Int32).toUInt32 &&& Int32.toUInt32 31)).toInt32) &&& (1431655765 : Int32))).toUInt32 >>> ((2 : Int32).toUInt32 &&& Int32.toUInt32 31)).toInt32) &&& (858993459 : Int32))).toUInt32 >>> ((4 : Int32).toUInt32 &&& Int32.toUInt32 31)).toInt32)) &&& (252645135 : Int32)).toUInt32 >>> ((8 : Int32).toUInt32 &&& Int32.toUInt32 31)).toInt32)))] (show Dc Y_J6_bitCount_0f7a4 40 (.istore_n 0) 1 41 from ⟨by decide +kernel, rfl⟩) rfl (by decide) rfl rfl ?_
  refine J_iload_n rfl rfl (show Dc Y_J6_bitCount_0f7a4 41 (.iload_n 0) 1 42 from ⟨by decide +kernel, rfl⟩) ?_
  refine J_iload_n rfl rfl (show Dc Y_J6_bitCount_0f7a4 42 (.iload_n 0) 1 43 from ⟨by decide +kernel, rfl⟩) ?_
  refine J_bipush (16 : Int32) rfl (show Dc Y_J6_bitCount_0f7a4 43 (.bipush 16) 2 45 from ⟨by decide +kernel, rfl⟩) ?_
  refine J_iushr (show Dc Y_J6_bitCount_0f7a4 45 (.iushr) 1 46 from ⟨by decide +kernel, rfl⟩) ?_
  refine J_iadd (show Dc Y_J6_bitCount_0f7a4 46 (.iadd) 1 47 from ⟨by decide +kernel, rfl⟩) ?_
  refine J_istore_n [some (.int (((((((x0 - (((x0.toUInt32 >>> ((1 : Int32).toUInt32 &&& Int32.toUInt32 31)).toInt32) &&& (1431655765 : Int32))) &&& (858993459 : Int32)) + ((((x0 - (((x0.toUInt32 >>> ((1 : Int32).toUInt32 &&& Int32.toUInt32 31)).toInt32) &&& (1431655765 : Int32))).toUInt32 >>> ((2 : Int32).toUInt32 &&& Int32.toUInt32 31)).toInt32) &&& (858993459 : Int32))) + (((((x0 - (((x0.toUInt32 >>> ((1 : Int32).toUInt32 &&& Int32.toUInt32 31)).toInt32) &&& (1431655765 : Int32))) &&& (858993459 : Int32)) + ((((x0 - (((x0.toUInt32 >>> ((1 : Int32).toUInt32 &&& Int32.toUInt32 31)).toInt32) &&& (1431655765 : Int32))).toUInt32 >>> ((2 : Int32).toUInt32 &&& Int32.toUInt32 31)).toInt32) &&& (858993459 : Int32))).toUInt32 >>> ((4 : Int32).toUInt32 &&& Int32.toUInt32 31)).toInt32)) &&& (252645135 : Int32)) + (((((((x0 - (((x0.toUInt32 >>> ((1 : Int32).toUInt32 &&& Int32.toUInt32 31)).toInt32) &&& (1431655765 : Int32))) &&& (858993459 : Int32)) + ((((x0 - (((x0.toUInt32 >>> ((1 : Int32).toUInt32 &&& Int32.toUInt32 31)).toInt32) &&& (1431655765 : Int32))).toUInt32 >>> ((2 : Int32).toUInt32 &&& Int32.toUInt32 31)).toInt32) &&& (858993459 : Int32))) + (((((x0 - (((x0.toUInt32 >>> ((1 : Int32).toUInt32 &&& Int32.toUInt32 31)).toInt32) &&& (1431655765 : Int32))) &&& (858993459 : Int32)) + ((((x0 - (((x0.toUInt32 >>> ((1 : Int32).toUInt32 &&& Int32.toUInt32 31)).toInt32) &&& (1431655765 : Int32))).toUInt32 >>> ((2 : Int32).toUInt32 &&& Int32.toUInt32 31)).toInt32) &&& (858993459 : Int32))).toUInt32 >>> ((4 : Int32).toUInt32 &&& Int32.toUInt32 31)).toInt32)) &&& (252645135 : Int32)).toUInt32 >>> ((8 : Int32).toUInt32 &&& Int32.toUInt32 31)).toInt32)) + ((((((((x0 - (((x0.toUInt32 >>> ((1 : Int32).toUInt32 &&& Int32.toUInt32 31)).toInt32) &&& (1431655765 : Int32))) &&& (858993459 : Int32)) + ((((x0 - (((x0.toUInt32 >>> ((1 : Int32).toUInt32 &&& Int32.toUInt32 31)).toInt32) &&& (1431655765 : Int32))).toUInt32 >>> ((2 : Int32).toUInt32 &&& Int32.toUInt32 31)).toInt32) &&& (858993459 : Int32))) + (((((x0 - (((x0.toUInt32 >>> ((1 : Int32).toUInt32 &&& Int32.toUInt32 31)).toInt32) &&& (1431655765 : Int32))) &&& (858993459 : Int32)) + ((((x0 - (((x0.toUInt32 >>> ((1 : Int32).toUInt32 &&& Int32.toUInt32 31)).toInt32) &&& (1431655765 : Int32))).toUInt32 >>> ((2 : Int32).toUInt32 &&& Int32.toUInt32 31)).toInt32) &&& (858993459 : Int32))).toUInt32 >>> ((4 : Int32).toUInt32 &&& Int32.toUInt32 31)).toInt32)) &&& (252645135 : Int32)) + (((((((x0 - (((x0.toUInt32 >>> ((1 : Int32).toUInt32 &&& Int32.toUInt32 31)).toInt32) &&& (1431655765 : Int32))) &&& (858993459 : Int32)) + ((((x0 - (((x0.toUInt32 >>> ((1 : Int32).toUInt32 &&& Int32.toUInt32 31)).toInt32) &&& (1431655765 : Int32))).toUInt32 >>> ((2 : Int32).toUInt32 &&& Int32.toUInt32 31)).toInt32) &&& (858993459 : Int32))) + (((((x0 - (((x0.toUInt32 >>> ((1 : Int32).toUInt32 &&& Int32.toUInt32 31)).toInt32) &&& (1431655765 : Int32))) &&& (858993459 : Int32)) + ((((x0 - (((x0.toUInt32 >>> ((1 : Int32).toUInt32 &&& Int32.toUInt32 31)).toInt32) &&& (1431655765 : Int32))).toUInt32 >>> ((2 : Int32).toUInt32 &&& Int32.toUInt32 31)).toInt32) &&& (858993459 : Int32))).toUInt32 >>> ((4 : Int32).toUInt32 &&& Int32.toUInt32 31)).toInt32)) &&& (252645135 : Int32)).toUInt32 >>> ((8 : Int32).toUInt32 &&& Int32.toUInt32 31)).toInt32)).toUInt32 >>> ((16 : Int32).toUInt32 &&& Int32.toUInt32 31)).toInt32)))] (show Dc Y_J6_bitCount_0f7a4 47 (.istore_n 0) 1 48 from ⟨by decide +kernel, rfl⟩) rfl (by decide) rfl rfl ?_
  refine J_iload_n rfl rfl (show Dc Y_J6_bitCount_0f7a4 48 (.iload_n 0) 1 49 from ⟨by decide +kernel, rfl⟩) ?_
  refine J_bipush (63 : Int32) rfl (show Dc Y_J6_bitCount_0f7a4 49 (.bipush 63) 2 51 from ⟨by decide +kernel, rfl⟩) ?_
  refine J_iand (show Dc Y_J6_bitCount_0f7a4 51 (.iand) 1 52 from ⟨by decide +kernel, rfl⟩) ?_
  exact J_reti (show Dc Y_J6_bitCount_0f7a4 52 (.ireturn) 1 53 from ⟨by decide +kernel, rfl⟩) rfl (h0 _) (by decide) (by decide)

theorem c_J6_bitCount_0f7a4 {l : Launch} {D : ZD} {B0 : Nat} (x0 : Int32) (g : ZS) : ∀ r, f_J6_bitCount_0f7a4 x0 = some r → zCt l D B0 yJ6_bitCount_0f7a4 Y_J6_bitCount_0f7a4 [.int x0] g (some (.int r)) g :=
  zCt_ofF (vo := fun r => some (.int r)) (so := fun _ => g) (by decide +kernel) rfl (fun h => by cases h) rfl (Nat.le_of_ble_eq_true rfl) (fun X => j_J6_bitCount_0f7a4 x0 g (fun _ h => h))

theorem j_J6_numberOfTrailingZeros_0f7a4_74 {X : ZX} (x0 : Int32) (x1 : Int32)   (g : ZS) {K : Int32 → Prop} (h0 : ∀ v, K v → xK X (some (.int v)) g) : J Y_J6_numberOfTrailingZeros_0f7a4 X 0 0 74 [some (.int x0), some (.int x1)] [] g (f_J6_numberOfTrailingZeros_0f7a4_74 x0 x1) K := by
  unfold f_J6_numberOfTrailingZeros_0f7a4_74
  refine J_iload_n rfl rfl (show Dc Y_J6_numberOfTrailingZeros_0f7a4 74 (.iload_n 1) 1 75 from ⟨by decide +kernel, rfl⟩) ?_
  refine J_iload_n rfl rfl (show Dc Y_J6_numberOfTrailingZeros_0f7a4 75 (.iload_n 0) 1 76 from ⟨by decide +kernel, rfl⟩) ?_
  refine J_iconst (1 : Int32) rfl (show Dc Y_J6_numberOfTrailingZeros_0f7a4 76 (.iconst 1) 1 77 from ⟨by decide +kernel, rfl⟩) ?_
  refine J_iushr (show Dc Y_J6_numberOfTrailingZeros_0f7a4 77 (.iushr) 1 78 from ⟨by decide +kernel, rfl⟩) ?_
  refine J_iadd (show Dc Y_J6_numberOfTrailingZeros_0f7a4 78 (.iadd) 1 79 from ⟨by decide +kernel, rfl⟩) ?_
  exact J_reti (show Dc Y_J6_numberOfTrailingZeros_0f7a4 79 (.ireturn) 1 80 from ⟨by decide +kernel, rfl⟩) rfl (h0 _) (by decide) (by decide)

theorem j_J6_numberOfTrailingZeros_0f7a4_62 {X : ZX} (x0 : Int32) (x1 : Int32)   (g : ZS) {K : Int32 → Prop} (h0 : ∀ v, K v → xK X (some (.int v)) g) : J Y_J6_numberOfTrailingZeros_0f7a4 X 0 0 62 [some (.int x0), some (.int x1)] [] g (f_J6_numberOfTrailingZeros_0f7a4_62 x0 x1) K := by
  unfold f_J6_numberOfTrailingZeros_0f7a4_62
  refine J_iload_n rfl rfl (show Dc Y_J6_numberOfTrailingZeros_0f7a4 62 (.iload_n 0) 1 63 from ⟨by decide +kernel, rfl⟩) ?_
  refine J_iconst (4 : Int32) rfl (show Dc Y_J6_numberOfTrailingZeros_0f7a4 63 (.iconst 4) 1 64 from ⟨by decide +kernel, rfl⟩) ?_
  refine J_icmp_le (tg := 74) (show Dc Y_J6_numberOfTrailingZeros_0f7a4 64 (.if_icmp .le 10) 3 67 from ⟨by decide +kernel, rfl⟩) (by decide) (fun h => ?_) (fun h => ?_)
  · exact j_J6_numberOfTrailingZeros_0f7a4_74 x0 x1 g h0
  · refine J_iinc (2 : Int32) [some (.int x0), some (.int (x1 + (2 : Int32)))] (show Dc Y_J6_numberOfTrailingZeros_0f7a4 67 (.iinc 1 2) 3 70 from ⟨by decide +kernel, rfl⟩) rfl rfl (by decide) rfl rfl ?_
    refine J_iload_n rfl rfl (show Dc Y_J6_numberOfTrailingZeros_0f7a4 70 (.iload_n 0) 1 71 from ⟨by decide +kernel, rfl⟩) ?_
    refine J_iconst (2 : Int32) rfl (show Dc Y_J6_numberOfTrailingZeros_0f7a4 71 (.iconst 2) 1 72 from ⟨by decide +kernel, rfl⟩) ?_
    refine J_iushr (show Dc Y_J6_numberOfTrailingZeros_0f7a4 72 (.iushr) 1 73 from ⟨by decide +kernel, rfl⟩) ?_
    refine J_istore_n [some (.int ((x0.toUInt32 >>> ((2 : Int32).toUInt32 &&& Int32.toUInt32 31)).toInt32)), some (.int (x1 + (2 : Int32)))] (show Dc Y_J6_numberOfTrailingZeros_0f7a4 73 (.istore_n 0) 1 74 from ⟨by decide +kernel, rfl⟩) rfl (by decide) rfl rfl ?_
    exact j_J6_numberOfTrailingZeros_0f7a4_74 ((x0.toUInt32 >>> ((2 : Int32).toUInt32 &&& Int32.toUInt32 31)).toInt32) (x1 + (2 : Int32)) g h0

theorem j_J6_numberOfTrailingZeros_0f7a4_49 {X : ZX} (x0 : Int32) (x1 : Int32)   (g : ZS) {K : Int32 → Prop} (h0 : ∀ v, K v → xK X (some (.int v)) g) : J Y_J6_numberOfTrailingZeros_0f7a4 X 0 0 49 [some (.int x0), some (.int x1)] [] g (f_J6_numberOfTrailingZeros_0f7a4_49 x0 x1) K := by
  unfold f_J6_numberOfTrailingZeros_0f7a4_49
  refine J_iload_n rfl rfl (show Dc Y_J6_numberOfTrailingZeros_0f7a4 49 (.iload_n 0) 1 50 from ⟨by decide +kernel, rfl⟩) ?_
  refine J_bipush (16 : Int32) rfl (show Dc Y_J6_numberOfTrailingZeros_0f7a4 50 (.bipush 16) 2 52 from ⟨by decide +kernel, rfl⟩) ?_
  refine J_icmp_le (tg := 62) (show Dc Y_J6_numberOfTrailingZeros_0f7a4 52 (.if_icmp .le 10) 3 55 from ⟨by decide +kernel, rfl⟩) (by decide) (fun h => ?_) (fun h => ?_)
  · exact j_J6_numberOfTrailingZeros_0f7a4_62 x0 x1 g h0
  · refine J_iinc (4 : Int32) [some (.int x0), some (.int (x1 + (4 : Int32)))] (show Dc Y_J6_numberOfTrailingZeros_0f7a4 55 (.iinc 1 4) 3 58 from ⟨by decide +kernel, rfl⟩) rfl rfl (by decide) rfl rfl ?_
    refine J_iload_n rfl rfl (show Dc Y_J6_numberOfTrailingZeros_0f7a4 58 (.iload_n 0) 1 59 from ⟨by decide +kernel, rfl⟩) ?_
    refine J_iconst (4 : Int32) rfl (show Dc Y_J6_numberOfTrailingZeros_0f7a4 59 (.iconst 4) 1 60 from ⟨by decide +kernel, rfl⟩) ?_
    refine J_iushr (show Dc Y_J6_numberOfTrailingZeros_0f7a4 60 (.iushr) 1 61 from ⟨by decide +kernel, rfl⟩) ?_
    refine J_istore_n [some (.int ((x0.toUInt32 >>> ((4 : Int32).toUInt32 &&& Int32.toUInt32 31)).toInt32)), some (.int (x1 + (4 : Int32)))] (show Dc Y_J6_numberOfTrailingZeros_0f7a4 61 (.istore_n 0) 1 62 from ⟨by decide +kernel, rfl⟩) rfl (by decide) rfl rfl ?_
    exact j_J6_numberOfTrailingZeros_0f7a4_62 ((x0.toUInt32 >>> ((4 : Int32).toUInt32 &&& Int32.toUInt32 31)).toInt32) (x1 + (4 : Int32)) g h0

theorem j_J6_numberOfTrailingZeros_0f7a4_34 {X : ZX} (x0 : Int32) (x1 : Int32)   (g : ZS) {K : Int32 → Prop} (h0 : ∀ v, K v → xK X (some (.int v)) g) : J Y_J6_numberOfTrailingZeros_0f7a4 X 0 0 34 [some (.int x0), some (.int x1)] [] g (f_J6_numberOfTrailingZeros_0f7a4_34 x0 x1) K := by
  unfold f_J6_numberOfTrailingZeros_0f7a4_34
  refine J_iload_n rfl rfl (show Dc Y_J6_numberOfTrailingZeros_0f7a4 34 (.iload_n 0) 1 35 from ⟨by decide +kernel, rfl⟩) ?_
  refine J_sipush (256 : Int32) rfl (show Dc Y_J6_numberOfTrailingZeros_0f7a4 35 (.sipush 256) 3 38 from ⟨by decide +kernel, rfl⟩) ?_
  refine J_icmp_le (tg := 49) (show Dc Y_J6_numberOfTrailingZeros_0f7a4 38 (.if_icmp .le 11) 3 41 from ⟨by decide +kernel, rfl⟩) (by decide) (fun h => ?_) (fun h => ?_)
  · exact j_J6_numberOfTrailingZeros_0f7a4_49 x0 x1 g h0
  · refine J_iinc (8 : Int32) [some (.int x0), some (.int (x1 + (8 : Int32)))] (show Dc Y_J6_numberOfTrailingZeros_0f7a4 41 (.iinc 1 8) 3 44 from ⟨by decide +kernel, rfl⟩) rfl rfl (by decide) rfl rfl ?_
    refine J_iload_n rfl rfl (show Dc Y_J6_numberOfTrailingZeros_0f7a4 44 (.iload_n 0) 1 45 from ⟨by decide +kernel, rfl⟩) ?_
    refine J_bipush (8 : Int32) rfl (show Dc Y_J6_numberOfTrailingZeros_0f7a4 45 (.bipush 8) 2 47 from ⟨by decide +kernel, rfl⟩) ?_
    refine J_iushr (show Dc Y_J6_numberOfTrailingZeros_0f7a4 47 (.iushr) 1 48 from ⟨by decide +kernel, rfl⟩) ?_
    refine J_istore_n [some (.int ((x0.toUInt32 >>> ((8 : Int32).toUInt32 &&& Int32.toUInt32 31)).toInt32)), some (.int (x1 + (8 : Int32)))] (show Dc Y_J6_numberOfTrailingZeros_0f7a4 48 (.istore_n 0) 1 49 from ⟨by decide +kernel, rfl⟩) rfl (by decide) rfl rfl ?_
    exact j_J6_numberOfTrailingZeros_0f7a4_49 ((x0.toUInt32 >>> ((8 : Int32).toUInt32 &&& Int32.toUInt32 31)).toInt32) (x1 + (8 : Int32)) g h0

theorem j_J6_numberOfTrailingZeros_0f7a4 {X : ZX} (x0 : Int32)   (g : ZS) {K : Int32 → Prop} (h0 : ∀ v, K v → xK X (some (.int v)) g) : J Y_J6_numberOfTrailingZeros_0f7a4 X 0 0 0 [some (.int x0), none] [] g (f_J6_numberOfTrailingZeros_0f7a4 x0) K := by
  unfold f_J6_numberOfTrailingZeros_0f7a4
  refine J_iload_n rfl rfl (show Dc Y_J6_numberOfTrailingZeros_0f7a4 0 (.iload_n 0) 1 1 from ⟨by decide +kernel, rfl⟩) ?_
  refine J_iconst (-1 : Int32) rfl (show Dc Y_J6_numberOfTrailingZeros_0f7a4 1 (.iconst (-1)) 1 2 from ⟨by decide +kernel, rfl⟩) ?_
  refine J_ixor (show Dc Y_J6_numberOfTrailingZeros_0f7a4 2 (.ixor) 1 3 from ⟨by decide +kernel, rfl⟩) ?_
  refine J_iload_n rfl rfl (show Dc Y_J6_numberOfTrailingZeros_0f7a4 3 (.iload_n 0) 1 4 from ⟨by decide +kernel, rfl⟩) ?_
  refine J_iconst (1 : Int32) rfl (show Dc Y_J6_numberOfTrailingZeros_0f7a4 4 (.iconst 1) 1 5 from ⟨by decide +kernel, rfl⟩) ?_
  refine J_isub (show Dc Y_J6_numberOfTrailingZeros_0f7a4 5 (.isub) 1 6 from ⟨by decide +kernel, rfl⟩) ?_
  refine J_iand (show Dc Y_J6_numberOfTrailingZeros_0f7a4 6 (.iand) 1 7 from ⟨by decide +kernel, rfl⟩) ?_
  refine J_istore_n [some (.int ((x0 ^^^ (-1 : Int32)) &&& (x0 - (1 : Int32)))), none] (show Dc Y_J6_numberOfTrailingZeros_0f7a4 7 (.istore_n 0) 1 8 from ⟨by decide +kernel, rfl⟩) rfl (by decide) rfl rfl ?_
  refine J_iload_n rfl rfl (show Dc Y_J6_numberOfTrailingZeros_0f7a4 8 (.iload_n 0) 1 9 from ⟨by decide +kernel, rfl⟩) ?_
  refine J_if_gt (tg := 17) (show Dc Y_J6_numberOfTrailingZeros_0f7a4 9 (.ifCond .gt 8) 3 12 from ⟨by decide +kernel, rfl⟩) (by decide) (fun h => ?_) (fun h => ?_)
  · refine J_iconst (1 : Int32) rfl (show Dc Y_J6_numberOfTrailingZeros_0f7a4 17 (.iconst 1) 1 18 from ⟨by decide +kernel, rfl⟩) ?_
    refine J_istore_n [some (.int ((x0 ^^^ (-1 : Int32)) &&& (x0 - (1 : Int32)))), some (.int (1 : Int32))] (show Dc Y_J6_numberOfTrailingZeros_0f7a4 18 (.istore_n 1) 1 19 from ⟨by decide +kernel, rfl⟩) rfl (by decide) rfl rfl ?_
    refine J_iload_n rfl rfl (show Dc Y_J6_numberOfTrailingZeros_0f7a4 19 (.iload_n 0) 1 20 from ⟨by decide +kernel, rfl⟩) ?_
    refine J_ldcw (65536 : Int32) w_k_RJ6_264 (show Dc Y_J6_numberOfTrailingZeros_0f7a4 20 (.ldc_w 264) 3 23 from ⟨by decide +kernel, rfl⟩) ?_
    refine J_icmp_le (tg := 34) (show Dc Y_J6_numberOfTrailingZeros_0f7a4 23 (.if_icmp .le 11) 3 26 from ⟨by decide +kernel, rfl⟩) (by decide) (fun h => ?_) (fun h => ?_)
    · exact j_J6_numberOfTrailingZeros_0f7a4_34 ((x0 ^^^ (-1 : Int32)) &&& (x0 - (1 : Int32))) (1 : Int32) g h0
    · refine J_iinc (16 : Int32) [some (.int ((x0 ^^^ (-1 : Int32)) &&& (x0 - (1 : Int32)))), some (.int ((1 : Int32) + (16 : Int32)))] (show Dc Y_J6_numberOfTrailingZeros_0f7a4 26 (.iinc 1 16) 3 29 from ⟨by decide +kernel, rfl⟩) rfl rfl (by decide) rfl rfl ?_
      refine J_iload_n rfl rfl (show Dc Y_J6_numberOfTrailingZeros_0f7a4 29 (.iload_n 0) 1 30 from ⟨by decide +kernel, rfl⟩) ?_
      refine J_bipush (16 : Int32) rfl (show Dc Y_J6_numberOfTrailingZeros_0f7a4 30 (.bipush 16) 2 32 from ⟨by decide +kernel, rfl⟩) ?_
      refine J_iushr (show Dc Y_J6_numberOfTrailingZeros_0f7a4 32 (.iushr) 1 33 from ⟨by decide +kernel, rfl⟩) ?_
      refine J_istore_n [some (.int ((((x0 ^^^ (-1 : Int32)) &&& (x0 - (1 : Int32))).toUInt32 >>> ((16 : Int32).toUInt32 &&& Int32.toUInt32 31)).toInt32)), some (.int ((1 : Int32) + (16 : Int32)))] (show Dc Y_J6_numberOfTrailingZeros_0f7a4 33 (.istore_n 0) 1 34 from ⟨by decide +kernel, rfl⟩) rfl (by decide) rfl rfl ?_
      exact j_J6_numberOfTrailingZeros_0f7a4_34 ((((x0 ^^^ (-1 : Int32)) &&& (x0 - (1 : Int32))).toUInt32 >>> ((16 : Int32).toUInt32 &&& Int32.toUInt32 31)).toInt32) ((1 : Int32) + (16 : Int32)) g h0
  · refine J_iload_n rfl rfl (show Dc Y_J6_numberOfTrailingZeros_0f7a4 12 (.iload_n 0) 1 13 from ⟨by decide +kernel, rfl⟩) ?_
    refine J_bipush (32 : Int32) rfl (show Dc Y_J6_numberOfTrailingZeros_0f7a4 13 (.bipush 32) 2 15 from ⟨by decide +kernel, rfl⟩) ?_
    refine J_iand (show Dc Y_J6_numberOfTrailingZeros_0f7a4 15 (.iand) 1 16 from ⟨by decide +kernel, rfl⟩) ?_
    exact J_reti (show Dc Y_J6_numberOfTrailingZeros_0f7a4 16 (.ireturn) 1 17 from ⟨by decide +kernel, rfl⟩) rfl (h0 _) (by decide) (by decide)

theorem c_J6_numberOfTrailingZeros_0f7a4 {l : Launch} {D : ZD} {B0 : Nat} (x0 : Int32) (g : ZS) : ∀ r, f_J6_numberOfTrailingZeros_0f7a4 x0 = some r → zCt l D B0 yJ6_numberOfTrailingZeros_0f7a4 Y_J6_numberOfTrailingZeros_0f7a4 [.int x0] g (some (.int r)) g :=
  zCt_ofF (vo := fun r => some (.int r)) (so := fun _ => g) (by decide +kernel) rfl (fun h => by cases h) rfl (Nat.le_of_ble_eq_true rfl) (fun X => j_J6_numberOfTrailingZeros_0f7a4 x0 g (fun _ h => h))

theorem j_J9_floorMod_7cf53_18 {X : ZX} (x2 : Int32)   (g : ZS) {K : Int32 → Prop} (h0 : ∀ v, K v → xK X (some (.int v)) g) : J Y_J9_floorMod_7cf53 X 0 0 18 [none, none, some (.int x2)] [] g (f_J9_floorMod_7cf53_18 x2) K := by
  unfold f_J9_floorMod_7cf53_18
  refine J_iload_n rfl rfl (show Dc Y_J9_floorMod_7cf53 18 (.iload_n 2) 1 19 from ⟨by decide +kernel, rfl⟩) ?_
  exact J_reti (show Dc Y_J9_floorMod_7cf53 19 (.ireturn) 1 20 from ⟨by decide +kernel, rfl⟩) rfl (h0 _) (by decide) (by decide)

theorem j_J9_floorMod_7cf53 {X : ZX} (x0 : Int32) (x1 : Int32)   (g : ZS) {K : Int32 → Prop} (h0 : ∀ v, K v → xK X (some (.int v)) g) : J Y_J9_floorMod_7cf53 X 0 0 0 [some (.int x0), some (.int x1), none] [] g (f_J9_floorMod_7cf53 x0 x1) K := by
  unfold f_J9_floorMod_7cf53
  refine J_iload_n rfl rfl (show Dc Y_J9_floorMod_7cf53 0 (.iload_n 0) 1 1 from ⟨by decide +kernel, rfl⟩) ?_
  refine J_iload_n rfl rfl (show Dc Y_J9_floorMod_7cf53 1 (.iload_n 1) 1 2 from ⟨by decide +kernel, rfl⟩) ?_
  refine J_irem (show Dc Y_J9_floorMod_7cf53 2 (.irem) 1 3 from ⟨by decide +kernel, rfl⟩) ?_
  refine J_istore_n [some (.int x0), some (.int x1), some (.int (x0 - x0 / x1 * x1))] (show Dc Y_J9_floorMod_7cf53 3 (.istore_n 2) 1 4 from ⟨by decide +kernel, rfl⟩) rfl (by decide) rfl rfl ?_
  refine J_iload_n rfl rfl (show Dc Y_J9_floorMod_7cf53 4 (.iload_n 0) 1 5 from ⟨by decide +kernel, rfl⟩) ?_
  refine J_iload_n rfl rfl (show Dc Y_J9_floorMod_7cf53 5 (.iload_n 1) 1 6 from ⟨by decide +kernel, rfl⟩) ?_
  refine J_ixor (show Dc Y_J9_floorMod_7cf53 6 (.ixor) 1 7 from ⟨by decide +kernel, rfl⟩) ?_
  refine J_if_ge (tg := 18) (show Dc Y_J9_floorMod_7cf53 7 (.ifCond .ge 11) 3 10 from ⟨by decide +kernel, rfl⟩) (by decide) (fun h => ?_) (fun h => ?_)
  · refine J_mask [false, false, true] ?_
    exact j_J9_floorMod_7cf53_18 (x0 - x0 / x1 * x1) g h0
  · refine J_iload_n rfl rfl (show Dc Y_J9_floorMod_7cf53 10 (.iload_n 2) 1 11 from ⟨by decide +kernel, rfl⟩) ?_
    refine J_if_eq (tg := 18) (show Dc Y_J9_floorMod_7cf53 11 (.ifCond .eq 7) 3 14 from ⟨by decide +kernel, rfl⟩) (by decide) (fun h => ?_) (fun h => ?_)
    · refine J_mask [false, false, true] ?_
      exact j_J9_floorMod_7cf53_18 (x0 - x0 / x1 * x1) g h0
    · refine J_iload_n rfl rfl (show Dc Y_J9_floorMod_7cf53 14 (.iload_n 2) 1 15 from ⟨by decide +kernel, rfl⟩) ?_
      refine J_iload_n rfl rfl (show Dc Y_J9_floorMod_7cf53 15 (.iload_n 1) 1 16 from ⟨by decide +kernel, rfl⟩) ?_
      refine J_iadd (show Dc Y_J9_floorMod_7cf53 16 (.iadd) 1 17 from ⟨by decide +kernel, rfl⟩) ?_
      exact J_reti (show Dc Y_J9_floorMod_7cf53 17 (.ireturn) 1 18 from ⟨by decide +kernel, rfl⟩) rfl (h0 _) (by decide) (by decide)

theorem c_J9_floorMod_7cf53 {l : Launch} {D : ZD} {B0 : Nat} (x0 : Int32) (x1 : Int32) (g : ZS) : ∀ r, f_J9_floorMod_7cf53 x0 x1 = some r → zCt l D B0 yJ9_floorMod_7cf53 Y_J9_floorMod_7cf53 [.int x0, .int x1] g (some (.int r)) g :=
  zCt_ofF (vo := fun r => some (.int r)) (so := fun _ => g) (by decide +kernel) rfl (fun h => by cases h) rfl (Nat.le_of_ble_eq_true rfl) (fun X => j_J9_floorMod_7cf53 x0 x1 g (fun _ h => h))

theorem j_J9_max_7cf53_10 {X : ZX}  (s0 : Int32)  (g : ZS) {K : Int32 → Prop} (h0 : ∀ v, K v → xK X (some (.int v)) g) : J Y_J9_max_7cf53 X 0 0 10 [none, none] [.int s0] g (f_J9_max_7cf53_10 s0) K := by
  unfold f_J9_max_7cf53_10
  exact J_reti (show Dc Y_J9_max_7cf53 10 (.ireturn) 1 11 from ⟨by decide +kernel, rfl⟩) rfl (h0 _) (by decide) (by decide)

theorem j_J9_max_7cf53 {X : ZX} (x0 : Int32) (x1 : Int32)   (g : ZS) {K : Int32 → Prop} (h0 : ∀ v, K v → xK X (some (.int v)) g) : J Y_J9_max_7cf53 X 0 0 0 [some (.int x0), some (.int x1)] [] g (f_J9_max_7cf53 x0 x1) K := by
  unfold f_J9_max_7cf53
  refine J_iload_n rfl rfl (show Dc Y_J9_max_7cf53 0 (.iload_n 0) 1 1 from ⟨by decide +kernel, rfl⟩) ?_
  refine J_iload_n rfl rfl (show Dc Y_J9_max_7cf53 1 (.iload_n 1) 1 2 from ⟨by decide +kernel, rfl⟩) ?_
  refine J_icmp_lt (tg := 9) (show Dc Y_J9_max_7cf53 2 (.if_icmp .lt 7) 3 5 from ⟨by decide +kernel, rfl⟩) (by decide) (fun h => ?_) (fun h => ?_)
  · refine J_iload_n rfl rfl (show Dc Y_J9_max_7cf53 9 (.iload_n 1) 1 10 from ⟨by decide +kernel, rfl⟩) ?_
    refine J_mask [false, false] ?_
    exact j_J9_max_7cf53_10 x1 g h0
  · refine J_iload_n rfl rfl (show Dc Y_J9_max_7cf53 5 (.iload_n 0) 1 6 from ⟨by decide +kernel, rfl⟩) ?_
    refine J_goto (tg := 10) (show Dc Y_J9_max_7cf53 6 (.goto 4) 3 9 from ⟨by decide +kernel, rfl⟩) (by decide) ?_
    refine J_mask [false, false] ?_
    exact j_J9_max_7cf53_10 x0 g h0

theorem c_J9_max_7cf53 {l : Launch} {D : ZD} {B0 : Nat} (x0 : Int32) (x1 : Int32) (g : ZS) : ∀ r, f_J9_max_7cf53 x0 x1 = some r → zCt l D B0 yJ9_max_7cf53 Y_J9_max_7cf53 [.int x0, .int x1] g (some (.int r)) g :=
  zCt_ofF (vo := fun r => some (.int r)) (so := fun _ => g) (by decide +kernel) rfl (fun h => by cases h) rfl (Nat.le_of_ble_eq_true rfl) (fun X => j_J9_max_7cf53 x0 x1 g (fun _ h => h))

theorem j_J9_min_7cf53_10 {X : ZX}  (s0 : Int32)  (g : ZS) {K : Int32 → Prop} (h0 : ∀ v, K v → xK X (some (.int v)) g) : J Y_J9_min_7cf53 X 0 0 10 [none, none] [.int s0] g (f_J9_min_7cf53_10 s0) K := by
  unfold f_J9_min_7cf53_10
  exact J_reti (show Dc Y_J9_min_7cf53 10 (.ireturn) 1 11 from ⟨by decide +kernel, rfl⟩) rfl (h0 _) (by decide) (by decide)

theorem j_J9_min_7cf53 {X : ZX} (x0 : Int32) (x1 : Int32)   (g : ZS) {K : Int32 → Prop} (h0 : ∀ v, K v → xK X (some (.int v)) g) : J Y_J9_min_7cf53 X 0 0 0 [some (.int x0), some (.int x1)] [] g (f_J9_min_7cf53 x0 x1) K := by
  unfold f_J9_min_7cf53
  refine J_iload_n rfl rfl (show Dc Y_J9_min_7cf53 0 (.iload_n 0) 1 1 from ⟨by decide +kernel, rfl⟩) ?_
  refine J_iload_n rfl rfl (show Dc Y_J9_min_7cf53 1 (.iload_n 1) 1 2 from ⟨by decide +kernel, rfl⟩) ?_
  refine J_icmp_gt (tg := 9) (show Dc Y_J9_min_7cf53 2 (.if_icmp .gt 7) 3 5 from ⟨by decide +kernel, rfl⟩) (by decide) (fun h => ?_) (fun h => ?_)
  · refine J_iload_n rfl rfl (show Dc Y_J9_min_7cf53 9 (.iload_n 1) 1 10 from ⟨by decide +kernel, rfl⟩) ?_
    refine J_mask [false, false] ?_
    exact j_J9_min_7cf53_10 x1 g h0
  · refine J_iload_n rfl rfl (show Dc Y_J9_min_7cf53 5 (.iload_n 0) 1 6 from ⟨by decide +kernel, rfl⟩) ?_
    refine J_goto (tg := 10) (show Dc Y_J9_min_7cf53 6 (.goto 4) 3 9 from ⟨by decide +kernel, rfl⟩) (by decide) ?_
    refine J_mask [false, false] ?_
    exact j_J9_min_7cf53_10 x0 g h0

theorem c_J9_min_7cf53 {l : Launch} {D : ZD} {B0 : Nat} (x0 : Int32) (x1 : Int32) (g : ZS) : ∀ r, f_J9_min_7cf53 x0 x1 = some r → zCt l D B0 yJ9_min_7cf53 Y_J9_min_7cf53 [.int x0, .int x1] g (some (.int r)) g :=
  zCt_ofF (vo := fun r => some (.int r)) (so := fun _ => g) (by decide +kernel) rfl (fun h => by cases h) rfl (Nat.le_of_ble_eq_true rfl) (fun X => j_J9_min_7cf53 x0 x1 g (fun _ h => h))

theorem j_X8_init {X : ZX} (x0 : Nat)   (g : ZS) {K : ZS → Prop} (h0 : ∀ g, K g → xK X none g) : J Y_X8_init X 0 0 0 [some (.ref x0)] [] g (f_X8_init x0 g) K := by
  unfold f_X8_init
  refine J_aload_n rfl rfl (show Dc Y_X8_init 0 (.aload_n 0) 1 1 from ⟨by decide +kernel, rfl⟩) ?_
  refine J_objI (show Dc Y_X8_init 1 (.invokespecial 3) 3 4 from ⟨by decide +kernel, rfl⟩) w_m_RX8_3 w_oi w_oc (by decide) (Nat.le_of_ble_eq_true rfl) ?_
  refine J_aload_n rfl rfl (show Dc Y_X8_init 4 (.aload_n 0) 1 5 from ⟨by decide +kernel, rfl⟩) ?_
  refine J_bipush (80 : Int32) rfl (show Dc Y_X8_init 5 (.bipush 80) 2 7 from ⟨by decide +kernel, rfl⟩) ?_
  refine J_newa (kd := 23) (n := 80) (show Dc Y_X8_init 7 (.newarray .char) 2 9 from ⟨by decide +kernel, rfl⟩) (by decide) (by decide) rfl w_ac23 (by decide) rfl (by decide) (by decide) (by decide) (fun p1 => ?_)
  refine J_putR (show Dc Y_X8_init 9 (.putfield 9) 3 12 from ⟨by decide +kernel, rfl⟩) w_f_RX8_9 rfl (Or.inl rfl) (fun g2 => ?_) (fun _ => rfl)
  exact J_ret0 (show Dc Y_X8_init 12 (.return_) 1 13 from ⟨by decide +kernel, rfl⟩) rfl (h0 _) (by decide) (by decide)

theorem c_X8_init {l : Launch} {D : ZD} {B0 : Nat} (x0 : Nat) (g : ZS) : ∀ r, f_X8_init x0 g = some r → zCt l D B0 yX8_init Y_X8_init [.ref x0] g none r :=
  zCt_ofF (vo := fun _ => none) (so := fun r => r) (by decide +kernel) rfl (fun _ => rfl) rfl (Nat.le_of_ble_eq_true rfl) (fun X => j_X8_init x0 g (fun _ h => h))

theorem j_X9_init {X : ZX} (x0 : Nat)   (g : ZS) {K : ZS → Prop} (h0 : ∀ g, K g → xK X none g) : J Y_X9_init X 0 0 0 [some (.ref x0)] [] g (f_X9_init x0 g) K := by
  unfold f_X9_init
  refine J_aload_n rfl rfl (show Dc Y_X9_init 0 (.aload_n 0) 1 1 from ⟨by decide +kernel, rfl⟩) ?_
  refine J_objI (show Dc Y_X9_init 1 (.invokespecial 3) 3 4 from ⟨by decide +kernel, rfl⟩) w_m_RX9_3 w_oi w_oc (by decide) (Nat.le_of_ble_eq_true rfl) ?_
  refine J_aload_n rfl rfl (show Dc Y_X9_init 4 (.aload_n 0) 1 5 from ⟨by decide +kernel, rfl⟩) ?_
  refine J_bipush (8 : Int32) rfl (show Dc Y_X9_init 5 (.bipush 8) 2 7 from ⟨by decide +kernel, rfl⟩) ?_
  refine J_newa (kd := 24) (n := 8) (show Dc Y_X9_init 7 (.newarray .long) 2 9 from ⟨by decide +kernel, rfl⟩) (by decide) (by decide) rfl w_ac24 (by decide) rfl (by decide) (by decide) (by decide) (fun p1 => ?_)
  refine J_putR (show Dc Y_X9_init 9 (.putfield 9) 3 12 from ⟨by decide +kernel, rfl⟩) w_f_RX9_9 rfl (Or.inl rfl) (fun g2 => ?_) (fun _ => rfl)
  exact J_ret0 (show Dc Y_X9_init 12 (.return_) 1 13 from ⟨by decide +kernel, rfl⟩) rfl (h0 _) (by decide) (by decide)

theorem c_X9_init {l : Launch} {D : ZD} {B0 : Nat} (x0 : Nat) (g : ZS) : ∀ r, f_X9_init x0 g = some r → zCt l D B0 yX9_init Y_X9_init [.ref x0] g none r :=
  zCt_ofF (vo := fun _ => none) (so := fun r => r) (by decide +kernel) rfl (fun _ => rfl) rfl (Nat.le_of_ble_eq_true rfl) (fun X => j_X9_init x0 g (fun _ h => h))

theorem j_X5_init {X : ZX} (x0 : Nat)   (g : ZS) {K : ZS → Prop} (h0 : ∀ g, K g → xK X none g) : J Y_X5_init X 0 0 0 [some (.ref x0)] [] g (f_X5_init x0 g) K := by
  unfold f_X5_init
  refine J_aload_n rfl rfl (show Dc Y_X5_init 0 (.aload_n 0) 1 1 from ⟨by decide +kernel, rfl⟩) ?_
  refine J_objI (show Dc Y_X5_init 1 (.invokespecial 3) 3 4 from ⟨by decide +kernel, rfl⟩) w_m_RX5_3 w_oi w_oc (by decide) (Nat.le_of_ble_eq_true rfl) ?_
  refine J_aload_n rfl rfl (show Dc Y_X5_init 4 (.aload_n 0) 1 5 from ⟨by decide +kernel, rfl⟩) ?_
  refine J_bipush (40 : Int32) rfl (show Dc Y_X5_init 5 (.bipush 40) 2 7 from ⟨by decide +kernel, rfl⟩) ?_
  refine J_newa (kd := 20) (n := 40) (show Dc Y_X5_init 7 (.newarray .int) 2 9 from ⟨by decide +kernel, rfl⟩) (by decide) (by decide) rfl w_ac20 (by decide) rfl (by decide) (by decide) (by decide) (fun p1 => ?_)
  refine J_putR (show Dc Y_X5_init 9 (.putfield 9) 3 12 from ⟨by decide +kernel, rfl⟩) w_f_RX5_9 rfl (Or.inl rfl) (fun g2 => ?_) (fun _ => rfl)
  refine J_aload_n rfl rfl (show Dc Y_X5_init 12 (.aload_n 0) 1 13 from ⟨by decide +kernel, rfl⟩) ?_
  refine J_bipush (40 : Int32) rfl (show Dc Y_X5_init 13 (.bipush 40) 2 15 from ⟨by decide +kernel, rfl⟩) ?_
  refine J_newa (kd := 20) (n := 40) (show Dc Y_X5_init 15 (.newarray .int) 2 17 from ⟨by decide +kernel, rfl⟩) (by decide) (by decide) rfl w_ac20 (by decide) rfl (by decide) (by decide) (by decide) (fun p3 => ?_)
  refine J_putR (show Dc Y_X5_init 17 (.putfield 15) 3 20 from ⟨by decide +kernel, rfl⟩) w_f_RX5_15 rfl (Or.inl rfl) (fun g4 => ?_) (fun _ => rfl)
  refine J_aload_n rfl rfl (show Dc Y_X5_init 20 (.aload_n 0) 1 21 from ⟨by decide +kernel, rfl⟩) ?_
  refine J_bipush (40 : Int32) rfl (show Dc Y_X5_init 21 (.bipush 40) 2 23 from ⟨by decide +kernel, rfl⟩) ?_
  refine J_newa (kd := 20) (n := 40) (show Dc Y_X5_init 23 (.newarray .int) 2 25 from ⟨by decide +kernel, rfl⟩) (by decide) (by decide) rfl w_ac20 (by decide) rfl (by decide) (by decide) (by decide) (fun p5 => ?_)
  refine J_putR (show Dc Y_X5_init 25 (.putfield 18) 3 28 from ⟨by decide +kernel, rfl⟩) w_f_RX5_18 rfl (Or.inl rfl) (fun g6 => ?_) (fun _ => rfl)
  refine J_aload_n rfl rfl (show Dc Y_X5_init 28 (.aload_n 0) 1 29 from ⟨by decide +kernel, rfl⟩) ?_
  refine J_iconst (5 : Int32) rfl (show Dc Y_X5_init 29 (.iconst 5) 1 30 from ⟨by decide +kernel, rfl⟩) ?_
  refine J_newa (kd := 22) (n := 5) (show Dc Y_X5_init 30 (.newarray .boolean) 2 32 from ⟨by decide +kernel, rfl⟩) (by decide) (by decide) rfl w_ac22 (by decide) rfl (by decide) (by decide) (by decide) (fun p7 => ?_)
  refine J_putR (show Dc Y_X5_init 32 (.putfield 21) 3 35 from ⟨by decide +kernel, rfl⟩) w_f_RX5_21 rfl (Or.inl rfl) (fun g8 => ?_) (fun _ => rfl)
  exact J_ret0 (show Dc Y_X5_init 35 (.return_) 1 36 from ⟨by decide +kernel, rfl⟩) rfl (h0 _) (by decide) (by decide)

theorem c_X5_init {l : Launch} {D : ZD} {B0 : Nat} (x0 : Nat) (g : ZS) : ∀ r, f_X5_init x0 g = some r → zCt l D B0 yX5_init Y_X5_init [.ref x0] g none r :=
  zCt_ofF (vo := fun _ => none) (so := fun r => r) (by decide +kernel) rfl (fun _ => rfl) rfl (Nat.le_of_ble_eq_true rfl) (fun X => j_X5_init x0 g (fun _ h => h))

theorem j_X0_init {X : ZX} (x0 : Nat)   (g : ZS) {K : ZS → Prop} (h0 : ∀ g, K g → xK X none g) : J Y_X0_init X 0 0 0 [some (.ref x0)] [] g (f_X0_init x0 g) K := by
  unfold f_X0_init
  refine J_aload_n rfl rfl (show Dc Y_X0_init 0 (.aload_n 0) 1 1 from ⟨by decide +kernel, rfl⟩) ?_
  refine J_objI (show Dc Y_X0_init 1 (.invokespecial 3) 3 4 from ⟨by decide +kernel, rfl⟩) w_m_RX0_3 w_oi w_oc (by decide) (Nat.le_of_ble_eq_true rfl) ?_
  refine J_aload_n rfl rfl (show Dc Y_X0_init 4 (.aload_n 0) 1 5 from ⟨by decide +kernel, rfl⟩) ?_
  refine J_bipush (8 : Int32) rfl (show Dc Y_X0_init 5 (.bipush 8) 2 7 from ⟨by decide +kernel, rfl⟩) ?_
  refine J_newa (kd := 20) (n := 8) (show Dc Y_X0_init 7 (.newarray .int) 2 9 from ⟨by decide +kernel, rfl⟩) (by decide) (by decide) rfl w_ac20 (by decide) rfl (by decide) (by decide) (by decide) (fun p1 => ?_)
  refine J_putR (show Dc Y_X0_init 9 (.putfield 9) 3 12 from ⟨by decide +kernel, rfl⟩) w_f_RX0_9 rfl (Or.inl rfl) (fun g2 => ?_) (fun _ => rfl)
  refine J_aload_n rfl rfl (show Dc Y_X0_init 12 (.aload_n 0) 1 13 from ⟨by decide +kernel, rfl⟩) ?_
  refine J_bipush (8 : Int32) rfl (show Dc Y_X0_init 13 (.bipush 8) 2 15 from ⟨by decide +kernel, rfl⟩) ?_
  refine J_newa (kd := 20) (n := 8) (show Dc Y_X0_init 15 (.newarray .int) 2 17 from ⟨by decide +kernel, rfl⟩) (by decide) (by decide) rfl w_ac20 (by decide) rfl (by decide) (by decide) (by decide) (fun p3 => ?_)
  refine J_putR (show Dc Y_X0_init 17 (.putfield 15) 3 20 from ⟨by decide +kernel, rfl⟩) w_f_RX0_15 rfl (Or.inl rfl) (fun g4 => ?_) (fun _ => rfl)
  refine J_aload_n rfl rfl (show Dc Y_X0_init 20 (.aload_n 0) 1 21 from ⟨by decide +kernel, rfl⟩) ?_
  refine J_bipush (8 : Int32) rfl (show Dc Y_X0_init 21 (.bipush 8) 2 23 from ⟨by decide +kernel, rfl⟩) ?_
  refine J_newa (kd := 20) (n := 8) (show Dc Y_X0_init 23 (.newarray .int) 2 25 from ⟨by decide +kernel, rfl⟩) (by decide) (by decide) rfl w_ac20 (by decide) rfl (by decide) (by decide) (by decide) (fun p5 => ?_)
  refine J_putR (show Dc Y_X0_init 25 (.putfield 18) 3 28 from ⟨by decide +kernel, rfl⟩) w_f_RX0_18 rfl (Or.inl rfl) (fun g6 => ?_) (fun _ => rfl)
  refine J_aload_n rfl rfl (show Dc Y_X0_init 28 (.aload_n 0) 1 29 from ⟨by decide +kernel, rfl⟩) ?_
  refine J_bipush (8 : Int32) rfl (show Dc Y_X0_init 29 (.bipush 8) 2 31 from ⟨by decide +kernel, rfl⟩) ?_
  refine J_newa (kd := 20) (n := 8) (show Dc Y_X0_init 31 (.newarray .int) 2 33 from ⟨by decide +kernel, rfl⟩) (by decide) (by decide) rfl w_ac20 (by decide) rfl (by decide) (by decide) (by decide) (fun p7 => ?_)
  refine J_putR (show Dc Y_X0_init 33 (.putfield 21) 3 36 from ⟨by decide +kernel, rfl⟩) w_f_RX0_21 rfl (Or.inl rfl) (fun g8 => ?_) (fun _ => rfl)
  exact J_ret0 (show Dc Y_X0_init 36 (.return_) 1 37 from ⟨by decide +kernel, rfl⟩) rfl (h0 _) (by decide) (by decide)

theorem c_X0_init {l : Launch} {D : ZD} {B0 : Nat} (x0 : Nat) (g : ZS) : ∀ r, f_X0_init x0 g = some r → zCt l D B0 yX0_init Y_X0_init [.ref x0] g none r :=
  zCt_ofF (vo := fun _ => none) (so := fun r => r) (by decide +kernel) rfl (fun _ => rfl) rfl (Nat.le_of_ble_eq_true rfl) (fun X => j_X0_init x0 g (fun _ h => h))

theorem j_X7_init {X : ZX} (x0 : Nat)   (g : ZS) {K : ZS → Prop} (h0 : ∀ g, K g → xK X none g) : J Y_X7_init X 0 0 0 [some (.ref x0)] [] g (f_X7_init x0 g) K := by
  unfold f_X7_init
  refine J_aload_n rfl rfl (show Dc Y_X7_init 0 (.aload_n 0) 1 1 from ⟨by decide +kernel, rfl⟩) ?_
  refine J_objI (show Dc Y_X7_init 1 (.invokespecial 3) 3 4 from ⟨by decide +kernel, rfl⟩) w_m_RX7_3 w_oi w_oc (by decide) (Nat.le_of_ble_eq_true rfl) ?_
  refine J_aload_n rfl rfl (show Dc Y_X7_init 4 (.aload_n 0) 1 5 from ⟨by decide +kernel, rfl⟩) ?_
  refine J_bipush (12 : Int32) rfl (show Dc Y_X7_init 5 (.bipush 12) 2 7 from ⟨by decide +kernel, rfl⟩) ?_
  refine J_newa (kd := 20) (n := 12) (show Dc Y_X7_init 7 (.newarray .int) 2 9 from ⟨by decide +kernel, rfl⟩) (by decide) (by decide) rfl w_ac20 (by decide) rfl (by decide) (by decide) (by decide) (fun p1 => ?_)
  refine J_putR (show Dc Y_X7_init 9 (.putfield 9) 3 12 from ⟨by decide +kernel, rfl⟩) w_f_RX7_9 rfl (Or.inl rfl) (fun g2 => ?_) (fun _ => rfl)
  refine J_aload_n rfl rfl (show Dc Y_X7_init 12 (.aload_n 0) 1 13 from ⟨by decide +kernel, rfl⟩) ?_
  refine J_bipush (12 : Int32) rfl (show Dc Y_X7_init 13 (.bipush 12) 2 15 from ⟨by decide +kernel, rfl⟩) ?_
  refine J_newa (kd := 20) (n := 12) (show Dc Y_X7_init 15 (.newarray .int) 2 17 from ⟨by decide +kernel, rfl⟩) (by decide) (by decide) rfl w_ac20 (by decide) rfl (by decide) (by decide) (by decide) (fun p3 => ?_)
  refine J_putR (show Dc Y_X7_init 17 (.putfield 15) 3 20 from ⟨by decide +kernel, rfl⟩) w_f_RX7_15 rfl (Or.inl rfl) (fun g4 => ?_) (fun _ => rfl)
  refine J_aload_n rfl rfl (show Dc Y_X7_init 20 (.aload_n 0) 1 21 from ⟨by decide +kernel, rfl⟩) ?_
  refine J_bipush (8 : Int32) rfl (show Dc Y_X7_init 21 (.bipush 8) 2 23 from ⟨by decide +kernel, rfl⟩) ?_
  refine J_newa (kd := 20) (n := 8) (show Dc Y_X7_init 23 (.newarray .int) 2 25 from ⟨by decide +kernel, rfl⟩) (by decide) (by decide) rfl w_ac20 (by decide) rfl (by decide) (by decide) (by decide) (fun p5 => ?_)
  refine J_putR (show Dc Y_X7_init 25 (.putfield 18) 3 28 from ⟨by decide +kernel, rfl⟩) w_f_RX7_18 rfl (Or.inl rfl) (fun g6 => ?_) (fun _ => rfl)
  refine J_aload_n rfl rfl (show Dc Y_X7_init 28 (.aload_n 0) 1 29 from ⟨by decide +kernel, rfl⟩) ?_
  refine J_bipush (9 : Int32) rfl (show Dc Y_X7_init 29 (.bipush 9) 2 31 from ⟨by decide +kernel, rfl⟩) ?_
  refine J_newa (kd := 20) (n := 9) (show Dc Y_X7_init 31 (.newarray .int) 2 33 from ⟨by decide +kernel, rfl⟩) (by decide) (by decide) rfl w_ac20 (by decide) rfl (by decide) (by decide) (by decide) (fun p7 => ?_)
  refine J_putR (show Dc Y_X7_init 33 (.putfield 21) 3 36 from ⟨by decide +kernel, rfl⟩) w_f_RX7_21 rfl (Or.inl rfl) (fun g8 => ?_) (fun _ => rfl)
  refine J_aload_n rfl rfl (show Dc Y_X7_init 36 (.aload_n 0) 1 37 from ⟨by decide +kernel, rfl⟩) ?_
  refine J_sipush (256 : Int32) rfl (show Dc Y_X7_init 37 (.sipush 256) 3 40 from ⟨by decide +kernel, rfl⟩) ?_
  refine J_newa (kd := 20) (n := 256) (show Dc Y_X7_init 40 (.newarray .int) 2 42 from ⟨by decide +kernel, rfl⟩) (by decide) (by decide) rfl w_ac20 (by decide) rfl (by decide) (by decide) (by decide) (fun p9 => ?_)
  refine J_putR (show Dc Y_X7_init 42 (.putfield 24) 3 45 from ⟨by decide +kernel, rfl⟩) w_f_RX7_24 rfl (Or.inl rfl) (fun g10 => ?_) (fun _ => rfl)
  exact J_ret0 (show Dc Y_X7_init 45 (.return_) 1 46 from ⟨by decide +kernel, rfl⟩) rfl (h0 _) (by decide) (by decide)

theorem c_X7_init {l : Launch} {D : ZD} {B0 : Nat} (x0 : Nat) (g : ZS) : ∀ r, f_X7_init x0 g = some r → zCt l D B0 yX7_init Y_X7_init [.ref x0] g none r :=
  zCt_ofF (vo := fun _ => none) (so := fun r => r) (by decide +kernel) rfl (fun _ => rfl) rfl (Nat.le_of_ble_eq_true rfl) (fun X => j_X7_init x0 g (fun _ h => h))

theorem j_X3_init {X : ZX} (x0 : Nat)   (g : ZS) {K : ZS → Prop} (h0 : ∀ g, K g → xK X none g) : J Y_X3_init X 0 0 0 [some (.ref x0)] [] g (f_X3_init x0 g) K := by
  unfold f_X3_init
  refine J_aload_n rfl rfl (show Dc Y_X3_init 0 (.aload_n 0) 1 1 from ⟨by decide +kernel, rfl⟩) ?_
  refine J_objI (show Dc Y_X3_init 1 (.invokespecial 3) 3 4 from ⟨by decide +kernel, rfl⟩) w_m_RX3_3 w_oi w_oc (by decide) (Nat.le_of_ble_eq_true rfl) ?_
  refine J_aload_n rfl rfl (show Dc Y_X3_init 4 (.aload_n 0) 1 5 from ⟨by decide +kernel, rfl⟩) ?_
  refine J_bipush (12 : Int32) rfl (show Dc Y_X3_init 5 (.bipush 12) 2 7 from ⟨by decide +kernel, rfl⟩) ?_
  refine J_newa (kd := 20) (n := 12) (show Dc Y_X3_init 7 (.newarray .int) 2 9 from ⟨by decide +kernel, rfl⟩) (by decide) (by decide) rfl w_ac20 (by decide) rfl (by decide) (by decide) (by decide) (fun p1 => ?_)
  refine J_putR (show Dc Y_X3_init 9 (.putfield 9) 3 12 from ⟨by decide +kernel, rfl⟩) w_f_RX3_9 rfl (Or.inl rfl) (fun g2 => ?_) (fun _ => rfl)
  refine J_aload_n rfl rfl (show Dc Y_X3_init 12 (.aload_n 0) 1 13 from ⟨by decide +kernel, rfl⟩) ?_
  refine J_bipush (12 : Int32) rfl (show Dc Y_X3_init 13 (.bipush 12) 2 15 from ⟨by decide +kernel, rfl⟩) ?_
  refine J_newa (kd := 20) (n := 12) (show Dc Y_X3_init 15 (.newarray .int) 2 17 from ⟨by decide +kernel, rfl⟩) (by decide) (by decide) rfl w_ac20 (by decide) rfl (by decide) (by decide) (by decide) (fun p3 => ?_)
  refine J_putR (show Dc Y_X3_init 17 (.putfield 15) 3 20 from ⟨by decide +kernel, rfl⟩) w_f_RX3_15 rfl (Or.inl rfl) (fun g4 => ?_) (fun _ => rfl)
  exact J_ret0 (show Dc Y_X3_init 20 (.return_) 1 21 from ⟨by decide +kernel, rfl⟩) rfl (h0 _) (by decide) (by decide)

theorem c_X3_init {l : Launch} {D : ZD} {B0 : Nat} (x0 : Nat) (g : ZS) : ∀ r, f_X3_init x0 g = some r → zCt l D B0 yX3_init Y_X3_init [.ref x0] g none r :=
  zCt_ofF (vo := fun _ => none) (so := fun r => r) (by decide +kernel) rfl (fun _ => rfl) rfl (Nat.le_of_ble_eq_true rfl) (fun X => j_X3_init x0 g (fun _ h => h))

theorem j_X12_init {X : ZX} (x0 : Nat)   (g : ZS) {K : ZS → Prop} (h0 : ∀ g, K g → xK X none g) : J Y_X12_init X 0 0 0 [some (.ref x0)] [] g (f_X12_init x0 g) K := by
  unfold f_X12_init
  refine J_aload_n rfl rfl (show Dc Y_X12_init 0 (.aload_n 0) 1 1 from ⟨by decide +kernel, rfl⟩) ?_
  refine J_objI (show Dc Y_X12_init 1 (.invokespecial 3) 3 4 from ⟨by decide +kernel, rfl⟩) w_m_RX12_3 w_oi w_oc (by decide) (Nat.le_of_ble_eq_true rfl) ?_
  refine J_aload_n rfl rfl (show Dc Y_X12_init 4 (.aload_n 0) 1 5 from ⟨by decide +kernel, rfl⟩) ?_
  refine J_sipush (217 : Int32) rfl (show Dc Y_X12_init 5 (.sipush 217) 3 8 from ⟨by decide +kernel, rfl⟩) ?_
  refine J_newa (kd := 20) (n := 217) (show Dc Y_X12_init 8 (.newarray .int) 2 10 from ⟨by decide +kernel, rfl⟩) (by decide) (by decide) rfl w_ac20 (by decide) rfl (by decide) (by decide) (by decide) (fun p1 => ?_)
  refine J_putR (show Dc Y_X12_init 10 (.putfield 9) 3 13 from ⟨by decide +kernel, rfl⟩) w_f_RX12_9 rfl (Or.inl rfl) (fun g2 => ?_) (fun _ => rfl)
  refine J_aload_n rfl rfl (show Dc Y_X12_init 13 (.aload_n 0) 1 14 from ⟨by decide +kernel, rfl⟩) ?_
  refine J_bipush (6 : Int32) rfl (show Dc Y_X12_init 14 (.bipush 6) 2 16 from ⟨by decide +kernel, rfl⟩) ?_
  refine J_newa (kd := 20) (n := 6) (show Dc Y_X12_init 16 (.newarray .int) 2 18 from ⟨by decide +kernel, rfl⟩) (by decide) (by decide) rfl w_ac20 (by decide) rfl (by decide) (by decide) (by decide) (fun p3 => ?_)
  refine J_putR (show Dc Y_X12_init 18 (.putfield 13) 3 21 from ⟨by decide +kernel, rfl⟩) w_f_RX12_13 rfl (Or.inl rfl) (fun g4 => ?_) (fun _ => rfl)
  refine J_aload_n rfl rfl (show Dc Y_X12_init 21 (.aload_n 0) 1 22 from ⟨by decide +kernel, rfl⟩) ?_
  refine J_bipush (8 : Int32) rfl (show Dc Y_X12_init 22 (.bipush 8) 2 24 from ⟨by decide +kernel, rfl⟩) ?_
  refine J_newa (kd := 20) (n := 8) (show Dc Y_X12_init 24 (.newarray .int) 2 26 from ⟨by decide +kernel, rfl⟩) (by decide) (by decide) rfl w_ac20 (by decide) rfl (by decide) (by decide) (by decide) (fun p5 => ?_)
  refine J_dup rfl (show Dc Y_X12_init 26 (.dup) 1 27 from ⟨by decide +kernel, rfl⟩) ?_
  refine J_iconst (0 : Int32) rfl (show Dc Y_X12_init 27 (.iconst 0) 1 28 from ⟨by decide +kernel, rfl⟩) ?_
  refine J_iconst (1 : Int32) rfl (show Dc Y_X12_init 28 (.iconst 1) 1 29 from ⟨by decide +kernel, rfl⟩) ?_
  refine J_iast (show Dc Y_X12_init 29 (.iastore) 1 30 from ⟨by decide +kernel, rfl⟩) (fun g6 => ?_)
  refine J_dup rfl (show Dc Y_X12_init 30 (.dup) 1 31 from ⟨by decide +kernel, rfl⟩) ?_
  refine J_iconst (1 : Int32) rfl (show Dc Y_X12_init 31 (.iconst 1) 1 32 from ⟨by decide +kernel, rfl⟩) ?_
  refine J_iconst (1 : Int32) rfl (show Dc Y_X12_init 32 (.iconst 1) 1 33 from ⟨by decide +kernel, rfl⟩) ?_
  refine J_iast (show Dc Y_X12_init 33 (.iastore) 1 34 from ⟨by decide +kernel, rfl⟩) (fun g7 => ?_)
  refine J_dup rfl (show Dc Y_X12_init 34 (.dup) 1 35 from ⟨by decide +kernel, rfl⟩) ?_
  refine J_iconst (2 : Int32) rfl (show Dc Y_X12_init 35 (.iconst 2) 1 36 from ⟨by decide +kernel, rfl⟩) ?_
  refine J_iconst (1 : Int32) rfl (show Dc Y_X12_init 36 (.iconst 1) 1 37 from ⟨by decide +kernel, rfl⟩) ?_
  refine J_iast (show Dc Y_X12_init 37 (.iastore) 1 38 from ⟨by decide +kernel, rfl⟩) (fun g8 => ?_)
  refine J_dup rfl (show Dc Y_X12_init 38 (.dup) 1 39 from ⟨by decide +kernel, rfl⟩) ?_
  refine J_iconst (3 : Int32) rfl (show Dc Y_X12_init 39 (.iconst 3) 1 40 from ⟨by decide +kernel, rfl⟩) ?_
  refine J_iconst (1 : Int32) rfl (show Dc Y_X12_init 40 (.iconst 1) 1 41 from ⟨by decide +kernel, rfl⟩) ?_
  refine J_iast (show Dc Y_X12_init 41 (.iastore) 1 42 from ⟨by decide +kernel, rfl⟩) (fun g9 => ?_)
  refine J_dup rfl (show Dc Y_X12_init 42 (.dup) 1 43 from ⟨by decide +kernel, rfl⟩) ?_
  refine J_iconst (4 : Int32) rfl (show Dc Y_X12_init 43 (.iconst 4) 1 44 from ⟨by decide +kernel, rfl⟩) ?_
  refine J_iconst (1 : Int32) rfl (show Dc Y_X12_init 44 (.iconst 1) 1 45 from ⟨by decide +kernel, rfl⟩) ?_
  refine J_iast (show Dc Y_X12_init 45 (.iastore) 1 46 from ⟨by decide +kernel, rfl⟩) (fun g10 => ?_)
  refine J_dup rfl (show Dc Y_X12_init 46 (.dup) 1 47 from ⟨by decide +kernel, rfl⟩) ?_
  refine J_iconst (5 : Int32) rfl (show Dc Y_X12_init 47 (.iconst 5) 1 48 from ⟨by decide +kernel, rfl⟩) ?_
  refine J_iconst (1 : Int32) rfl (show Dc Y_X12_init 48 (.iconst 1) 1 49 from ⟨by decide +kernel, rfl⟩) ?_
  refine J_iast (show Dc Y_X12_init 49 (.iastore) 1 50 from ⟨by decide +kernel, rfl⟩) (fun g11 => ?_)
  refine J_dup rfl (show Dc Y_X12_init 50 (.dup) 1 51 from ⟨by decide +kernel, rfl⟩) ?_
  refine J_bipush (6 : Int32) rfl (show Dc Y_X12_init 51 (.bipush 6) 2 53 from ⟨by decide +kernel, rfl⟩) ?_
  refine J_iconst (1 : Int32) rfl (show Dc Y_X12_init 53 (.iconst 1) 1 54 from ⟨by decide +kernel, rfl⟩) ?_
  refine J_iast (show Dc Y_X12_init 54 (.iastore) 1 55 from ⟨by decide +kernel, rfl⟩) (fun g12 => ?_)
  refine J_dup rfl (show Dc Y_X12_init 55 (.dup) 1 56 from ⟨by decide +kernel, rfl⟩) ?_
  refine J_bipush (7 : Int32) rfl (show Dc Y_X12_init 56 (.bipush 7) 2 58 from ⟨by decide +kernel, rfl⟩) ?_
  refine J_iconst (1 : Int32) rfl (show Dc Y_X12_init 58 (.iconst 1) 1 59 from ⟨by decide +kernel, rfl⟩) ?_
  refine J_iast (show Dc Y_X12_init 59 (.iastore) 1 60 from ⟨by decide +kernel, rfl⟩) (fun g13 => ?_)
  refine J_putR (show Dc Y_X12_init 60 (.putfield 16) 3 63 from ⟨by decide +kernel, rfl⟩) w_f_RX12_16 rfl (Or.inl rfl) (fun g14 => ?_) (fun _ => rfl)
  refine J_aload_n rfl rfl (show Dc Y_X12_init 63 (.aload_n 0) 1 64 from ⟨by decide +kernel, rfl⟩) ?_
  refine J_bipush (64 : Int32) rfl (show Dc Y_X12_init 64 (.bipush 64) 2 66 from ⟨by decide +kernel, rfl⟩) ?_
  refine J_newa (kd := 20) (n := 64) (show Dc Y_X12_init 66 (.newarray .int) 2 68 from ⟨by decide +kernel, rfl⟩) (by decide) (by decide) rfl w_ac20 (by decide) rfl (by decide) (by decide) (by decide) (fun p15 => ?_)
  refine J_putR (show Dc Y_X12_init 68 (.putfield 19) 3 71 from ⟨by decide +kernel, rfl⟩) w_f_RX12_19 rfl (Or.inl rfl) (fun g16 => ?_) (fun _ => rfl)
  refine J_aload_n rfl rfl (show Dc Y_X12_init 71 (.aload_n 0) 1 72 from ⟨by decide +kernel, rfl⟩) ?_
  refine J_iconst (4 : Int32) rfl (show Dc Y_X12_init 72 (.iconst 4) 1 73 from ⟨by decide +kernel, rfl⟩) ?_
  refine J_newa (kd := 20) (n := 4) (show Dc Y_X12_init 73 (.newarray .int) 2 75 from ⟨by decide +kernel, rfl⟩) (by decide) (by decide) rfl w_ac20 (by decide) rfl (by decide) (by decide) (by decide) (fun p17 => ?_)
  refine J_dup rfl (show Dc Y_X12_init 75 (.dup) 1 76 from ⟨by decide +kernel, rfl⟩) ?_
  refine J_iconst (0 : Int32) rfl (show Dc Y_X12_init 76 (.iconst 0) 1 77 from ⟨by decide +kernel, rfl⟩) ?_
  refine J_iconst (1 : Int32) rfl (show Dc Y_X12_init 77 (.iconst 1) 1 78 from ⟨by decide +kernel, rfl⟩) ?_
  refine J_iast (show Dc Y_X12_init 78 (.iastore) 1 79 from ⟨by decide +kernel, rfl⟩) (fun g18 => ?_)
  refine J_dup rfl (show Dc Y_X12_init 79 (.dup) 1 80 from ⟨by decide +kernel, rfl⟩) ?_
  refine J_iconst (1 : Int32) rfl (show Dc Y_X12_init 80 (.iconst 1) 1 81 from ⟨by decide +kernel, rfl⟩) ?_
  refine J_iconst (1 : Int32) rfl (show Dc Y_X12_init 81 (.iconst 1) 1 82 from ⟨by decide +kernel, rfl⟩) ?_
  refine J_iast (show Dc Y_X12_init 82 (.iastore) 1 83 from ⟨by decide +kernel, rfl⟩) (fun g19 => ?_)
  refine J_dup rfl (show Dc Y_X12_init 83 (.dup) 1 84 from ⟨by decide +kernel, rfl⟩) ?_
  refine J_iconst (2 : Int32) rfl (show Dc Y_X12_init 84 (.iconst 2) 1 85 from ⟨by decide +kernel, rfl⟩) ?_
  refine J_iconst (1 : Int32) rfl (show Dc Y_X12_init 85 (.iconst 1) 1 86 from ⟨by decide +kernel, rfl⟩) ?_
  refine J_iast (show Dc Y_X12_init 86 (.iastore) 1 87 from ⟨by decide +kernel, rfl⟩) (fun g20 => ?_)
  refine J_dup rfl (show Dc Y_X12_init 87 (.dup) 1 88 from ⟨by decide +kernel, rfl⟩) ?_
  refine J_iconst (3 : Int32) rfl (show Dc Y_X12_init 88 (.iconst 3) 1 89 from ⟨by decide +kernel, rfl⟩) ?_
  refine J_iconst (1 : Int32) rfl (show Dc Y_X12_init 89 (.iconst 1) 1 90 from ⟨by decide +kernel, rfl⟩) ?_
  refine J_iast (show Dc Y_X12_init 90 (.iastore) 1 91 from ⟨by decide +kernel, rfl⟩) (fun g21 => ?_)
  refine J_putR (show Dc Y_X12_init 91 (.putfield 22) 3 94 from ⟨by decide +kernel, rfl⟩) w_f_RX12_22 rfl (Or.inl rfl) (fun g22 => ?_) (fun _ => rfl)
  refine J_aload_n rfl rfl (show Dc Y_X12_init 94 (.aload_n 0) 1 95 from ⟨by decide +kernel, rfl⟩) ?_
  refine J_bipush (80 : Int32) rfl (show Dc Y_X12_init 95 (.bipush 80) 2 97 from ⟨by decide +kernel, rfl⟩) ?_
  refine J_newa (kd := 21) (n := 80) (show Dc Y_X12_init 97 (.newarray .byte) 2 99 from ⟨by decide +kernel, rfl⟩) (by decide) (by decide) rfl w_ac21 (by decide) rfl (by decide) (by decide) (by decide) (fun p23 => ?_)
  refine J_putR (show Dc Y_X12_init 99 (.putfield 25) 3 102 from ⟨by decide +kernel, rfl⟩) w_f_RX12_25 rfl (Or.inl rfl) (fun g24 => ?_) (fun _ => rfl)
  refine J_aload_n rfl rfl (show Dc Y_X12_init 102 (.aload_n 0) 1 103 from ⟨by decide +kernel, rfl⟩) ?_
  refine J_bipush (16 : Int32) rfl (show Dc Y_X12_init 103 (.bipush 16) 2 105 from ⟨by decide +kernel, rfl⟩) ?_
  refine J_newa (kd := 24) (n := 16) (show Dc Y_X12_init 105 (.newarray .long) 2 107 from ⟨by decide +kernel, rfl⟩) (by decide) (by decide) rfl w_ac24 (by decide) rfl (by decide) (by decide) (by decide) (fun p25 => ?_)
  refine J_putR (show Dc Y_X12_init 107 (.putfield 29) 3 110 from ⟨by decide +kernel, rfl⟩) w_f_RX12_29 rfl (Or.inl rfl) (fun g26 => ?_) (fun _ => rfl)
  refine J_aload_n rfl rfl (show Dc Y_X12_init 110 (.aload_n 0) 1 111 from ⟨by decide +kernel, rfl⟩) ?_
  refine J_bipush (80 : Int32) rfl (show Dc Y_X12_init 111 (.bipush 80) 2 113 from ⟨by decide +kernel, rfl⟩) ?_
  refine J_newa (kd := 20) (n := 80) (show Dc Y_X12_init 113 (.newarray .int) 2 115 from ⟨by decide +kernel, rfl⟩) (by decide) (by decide) rfl w_ac20 (by decide) rfl (by decide) (by decide) (by decide) (fun p27 => ?_)
  refine J_putR (show Dc Y_X12_init 115 (.putfield 33) 3 118 from ⟨by decide +kernel, rfl⟩) w_f_RX12_33 rfl (Or.inl rfl) (fun g28 => ?_) (fun _ => rfl)
  refine J_aload_n rfl rfl (show Dc Y_X12_init 118 (.aload_n 0) 1 119 from ⟨by decide +kernel, rfl⟩) ?_
  refine J_bipush (40 : Int32) rfl (show Dc Y_X12_init 119 (.bipush 40) 2 121 from ⟨by decide +kernel, rfl⟩) ?_
  refine J_newa (kd := 21) (n := 40) (show Dc Y_X12_init 121 (.newarray .byte) 2 123 from ⟨by decide +kernel, rfl⟩) (by decide) (by decide) rfl w_ac21 (by decide) rfl (by decide) (by decide) (by decide) (fun p29 => ?_)
  refine J_putR (show Dc Y_X12_init 123 (.putfield 36) 3 126 from ⟨by decide +kernel, rfl⟩) w_f_RX12_36 rfl (Or.inr rfl) (fun g30 => ?_) (fun _ => rfl)
  refine J_aload_n rfl rfl (show Dc Y_X12_init 126 (.aload_n 0) 1 127 from ⟨by decide +kernel, rfl⟩) ?_
  refine J_bipush (40 : Int32) rfl (show Dc Y_X12_init 127 (.bipush 40) 2 129 from ⟨by decide +kernel, rfl⟩) ?_
  refine J_newa (kd := 21) (n := 40) (show Dc Y_X12_init 129 (.newarray .byte) 2 131 from ⟨by decide +kernel, rfl⟩) (by decide) (by decide) rfl w_ac21 (by decide) rfl (by decide) (by decide) (by decide) (fun p31 => ?_)
  refine J_putR (show Dc Y_X12_init 131 (.putfield 39) 3 134 from ⟨by decide +kernel, rfl⟩) w_f_RX12_39 rfl (Or.inr rfl) (fun g32 => ?_) (fun _ => rfl)
  refine J_aload_n rfl rfl (show Dc Y_X12_init 134 (.aload_n 0) 1 135 from ⟨by decide +kernel, rfl⟩) ?_
  refine J_bipush (7 : Int32) rfl (show Dc Y_X12_init 135 (.bipush 7) 2 137 from ⟨by decide +kernel, rfl⟩) ?_
  refine J_newa (kd := 20) (n := 7) (show Dc Y_X12_init 137 (.newarray .int) 2 139 from ⟨by decide +kernel, rfl⟩) (by decide) (by decide) rfl w_ac20 (by decide) rfl (by decide) (by decide) (by decide) (fun p33 => ?_)
  refine J_putR (show Dc Y_X12_init 139 (.putfield 42) 3 142 from ⟨by decide +kernel, rfl⟩) w_f_RX12_42 rfl (Or.inl rfl) (fun g34 => ?_) (fun _ => rfl)
  refine J_aload_n rfl rfl (show Dc Y_X12_init 142 (.aload_n 0) 1 143 from ⟨by decide +kernel, rfl⟩) ?_
  refine J_bipush (8 : Int32) rfl (show Dc Y_X12_init 143 (.bipush 8) 2 145 from ⟨by decide +kernel, rfl⟩) ?_
  refine J_newa (kd := 20) (n := 8) (show Dc Y_X12_init 145 (.newarray .int) 2 147 from ⟨by decide +kernel, rfl⟩) (by decide) (by decide) rfl w_ac20 (by decide) rfl (by decide) (by decide) (by decide) (fun p35 => ?_)
  refine J_putR (show Dc Y_X12_init 147 (.putfield 45) 3 150 from ⟨by decide +kernel, rfl⟩) w_f_RX12_45 rfl (Or.inl rfl) (fun g36 => ?_) (fun _ => rfl)
  refine J_aload_n rfl rfl (show Dc Y_X12_init 150 (.aload_n 0) 1 151 from ⟨by decide +kernel, rfl⟩) ?_
  refine J_bipush (8 : Int32) rfl (show Dc Y_X12_init 151 (.bipush 8) 2 153 from ⟨by decide +kernel, rfl⟩) ?_
  refine J_newa (kd := 20) (n := 8) (show Dc Y_X12_init 153 (.newarray .int) 2 155 from ⟨by decide +kernel, rfl⟩) (by decide) (by decide) rfl w_ac20 (by decide) rfl (by decide) (by decide) (by decide) (fun p37 => ?_)
  refine J_putR (show Dc Y_X12_init 155 (.putfield 48) 3 158 from ⟨by decide +kernel, rfl⟩) w_f_RX12_48 rfl (Or.inl rfl) (fun g38 => ?_) (fun _ => rfl)
  refine J_aload_n rfl rfl (show Dc Y_X12_init 158 (.aload_n 0) 1 159 from ⟨by decide +kernel, rfl⟩) ?_
  refine J_bipush (8 : Int32) rfl (show Dc Y_X12_init 159 (.bipush 8) 2 161 from ⟨by decide +kernel, rfl⟩) ?_
  refine J_newa (kd := 20) (n := 8) (show Dc Y_X12_init 161 (.newarray .int) 2 163 from ⟨by decide +kernel, rfl⟩) (by decide) (by decide) rfl w_ac20 (by decide) rfl (by decide) (by decide) (by decide) (fun p39 => ?_)
  refine J_putR (show Dc Y_X12_init 163 (.putfield 51) 3 166 from ⟨by decide +kernel, rfl⟩) w_f_RX12_51 rfl (Or.inl rfl) (fun g40 => ?_) (fun _ => rfl)
  refine J_aload_n rfl rfl (show Dc Y_X12_init 166 (.aload_n 0) 1 167 from ⟨by decide +kernel, rfl⟩) ?_
  refine J_sipush (2604 : Int32) rfl (show Dc Y_X12_init 167 (.sipush 2604) 3 170 from ⟨by decide +kernel, rfl⟩) ?_
  refine J_newa (kd := 20) (n := 2604) (show Dc Y_X12_init 170 (.newarray .int) 2 172 from ⟨by decide +kernel, rfl⟩) (by decide) (by decide) rfl w_ac20 (by decide) rfl (by decide) (by decide) (by decide) (fun p41 => ?_)
  refine J_putR (show Dc Y_X12_init 172 (.putfield 54) 3 175 from ⟨by decide +kernel, rfl⟩) w_f_RX12_54 rfl (Or.inl rfl) (fun g42 => ?_) (fun _ => rfl)
  refine J_aload_n rfl rfl (show Dc Y_X12_init 175 (.aload_n 0) 1 176 from ⟨by decide +kernel, rfl⟩) ?_
  refine J_sipush (217 : Int32) rfl (show Dc Y_X12_init 176 (.sipush 217) 3 179 from ⟨by decide +kernel, rfl⟩) ?_
  refine J_newa (kd := 20) (n := 217) (show Dc Y_X12_init 179 (.newarray .int) 2 181 from ⟨by decide +kernel, rfl⟩) (by decide) (by decide) rfl w_ac20 (by decide) rfl (by decide) (by decide) (by decide) (fun p43 => ?_)
  refine J_putR (show Dc Y_X12_init 181 (.putfield 57) 3 184 from ⟨by decide +kernel, rfl⟩) w_f_RX12_57 rfl (Or.inl rfl) (fun g44 => ?_) (fun _ => rfl)
  refine J_aload_n rfl rfl (show Dc Y_X12_init 184 (.aload_n 0) 1 185 from ⟨by decide +kernel, rfl⟩) ?_
  refine J_sipush (217 : Int32) rfl (show Dc Y_X12_init 185 (.sipush 217) 3 188 from ⟨by decide +kernel, rfl⟩) ?_
  refine J_newa (kd := 20) (n := 217) (show Dc Y_X12_init 188 (.newarray .int) 2 190 from ⟨by decide +kernel, rfl⟩) (by decide) (by decide) rfl w_ac20 (by decide) rfl (by decide) (by decide) (by decide) (fun p45 => ?_)
  refine J_putR (show Dc Y_X12_init 190 (.putfield 60) 3 193 from ⟨by decide +kernel, rfl⟩) w_f_RX12_60 rfl (Or.inl rfl) (fun g46 => ?_) (fun _ => rfl)
  refine J_aload_n rfl rfl (show Dc Y_X12_init 193 (.aload_n 0) 1 194 from ⟨by decide +kernel, rfl⟩) ?_
  refine J_sipush (240 : Int32) rfl (show Dc Y_X12_init 194 (.sipush 240) 3 197 from ⟨by decide +kernel, rfl⟩) ?_
  refine J_newa (kd := 20) (n := 240) (show Dc Y_X12_init 197 (.newarray .int) 2 199 from ⟨by decide +kernel, rfl⟩) (by decide) (by decide) rfl w_ac20 (by decide) rfl (by decide) (by decide) (by decide) (fun p47 => ?_)
  refine J_putR (show Dc Y_X12_init 199 (.putfield 63) 3 202 from ⟨by decide +kernel, rfl⟩) w_f_RX12_63 rfl (Or.inl rfl) (fun g48 => ?_) (fun _ => rfl)
  refine J_aload_n rfl rfl (show Dc Y_X12_init 202 (.aload_n 0) 1 203 from ⟨by decide +kernel, rfl⟩) ?_
  refine J_bipush (6 : Int32) rfl (show Dc Y_X12_init 203 (.bipush 6) 2 205 from ⟨by decide +kernel, rfl⟩) ?_
  refine J_newa (kd := 20) (n := 6) (show Dc Y_X12_init 205 (.newarray .int) 2 207 from ⟨by decide +kernel, rfl⟩) (by decide) (by decide) rfl w_ac20 (by decide) rfl (by decide) (by decide) (by decide) (fun p49 => ?_)
  refine J_putR (show Dc Y_X12_init 207 (.putfield 66) 3 210 from ⟨by decide +kernel, rfl⟩) w_f_RX12_66 rfl (Or.inl rfl) (fun g50 => ?_) (fun _ => rfl)
  refine J_aload_n rfl rfl (show Dc Y_X12_init 210 (.aload_n 0) 1 211 from ⟨by decide +kernel, rfl⟩) ?_
  refine J_bipush (17 : Int32) rfl (show Dc Y_X12_init 211 (.bipush 17) 2 213 from ⟨by decide +kernel, rfl⟩) ?_
  refine J_newa (kd := 20) (n := 17) (show Dc Y_X12_init 213 (.newarray .int) 2 215 from ⟨by decide +kernel, rfl⟩) (by decide) (by decide) rfl w_ac20 (by decide) rfl (by decide) (by decide) (by decide) (fun p51 => ?_)
  refine J_putR (show Dc Y_X12_init 215 (.putfield 69) 3 218 from ⟨by decide +kernel, rfl⟩) w_f_RX12_69 rfl (Or.inl rfl) (fun g52 => ?_) (fun _ => rfl)
  refine J_aload_n rfl rfl (show Dc Y_X12_init 218 (.aload_n 0) 1 219 from ⟨by decide +kernel, rfl⟩) ?_
  refine J_bipush (8 : Int32) rfl (show Dc Y_X12_init 219 (.bipush 8) 2 221 from ⟨by decide +kernel, rfl⟩) ?_
  refine J_newa (kd := 20) (n := 8) (show Dc Y_X12_init 221 (.newarray .int) 2 223 from ⟨by decide +kernel, rfl⟩) (by decide) (by decide) rfl w_ac20 (by decide) rfl (by decide) (by decide) (by decide) (fun p53 => ?_)
  refine J_putR (show Dc Y_X12_init 223 (.putfield 72) 3 226 from ⟨by decide +kernel, rfl⟩) w_f_RX12_72 rfl (Or.inl rfl) (fun g54 => ?_) (fun _ => rfl)
  refine J_aload_n rfl rfl (show Dc Y_X12_init 226 (.aload_n 0) 1 227 from ⟨by decide +kernel, rfl⟩) ?_
  refine J_bipush (8 : Int32) rfl (show Dc Y_X12_init 227 (.bipush 8) 2 229 from ⟨by decide +kernel, rfl⟩) ?_
  refine J_newa (kd := 20) (n := 8) (show Dc Y_X12_init 229 (.newarray .int) 2 231 from ⟨by decide +kernel, rfl⟩) (by decide) (by decide) rfl w_ac20 (by decide) rfl (by decide) (by decide) (by decide) (fun p55 => ?_)
  refine J_putR (show Dc Y_X12_init 231 (.putfield 75) 3 234 from ⟨by decide +kernel, rfl⟩) w_f_RX12_75 rfl (Or.inl rfl) (fun g56 => ?_) (fun _ => rfl)
  refine J_aload_n rfl rfl (show Dc Y_X12_init 234 (.aload_n 0) 1 235 from ⟨by decide +kernel, rfl⟩) ?_
  refine J_bipush (12 : Int32) rfl (show Dc Y_X12_init 235 (.bipush 12) 2 237 from ⟨by decide +kernel, rfl⟩) ?_
  refine J_newa (kd := 20) (n := 12) (show Dc Y_X12_init 237 (.newarray .int) 2 239 from ⟨by decide +kernel, rfl⟩) (by decide) (by decide) rfl w_ac20 (by decide) rfl (by decide) (by decide) (by decide) (fun p57 => ?_)
  refine J_putR (show Dc Y_X12_init 239 (.putfield 78) 3 242 from ⟨by decide +kernel, rfl⟩) w_f_RX12_78 rfl (Or.inl rfl) (fun g58 => ?_) (fun _ => rfl)
  refine J_aload_n rfl rfl (show Dc Y_X12_init 242 (.aload_n 0) 1 243 from ⟨by decide +kernel, rfl⟩) ?_
  refine J_bipush (12 : Int32) rfl (show Dc Y_X12_init 243 (.bipush 12) 2 245 from ⟨by decide +kernel, rfl⟩) ?_
  refine J_newa (kd := 20) (n := 12) (show Dc Y_X12_init 245 (.newarray .int) 2 247 from ⟨by decide +kernel, rfl⟩) (by decide) (by decide) rfl w_ac20 (by decide) rfl (by decide) (by decide) (by decide) (fun p59 => ?_)
  refine J_putR (show Dc Y_X12_init 247 (.putfield 81) 3 250 from ⟨by decide +kernel, rfl⟩) w_f_RX12_81 rfl (Or.inl rfl) (fun g60 => ?_) (fun _ => rfl)
  refine J_aload_n rfl rfl (show Dc Y_X12_init 250 (.aload_n 0) 1 251 from ⟨by decide +kernel, rfl⟩) ?_
  refine J_bipush (8 : Int32) rfl (show Dc Y_X12_init 251 (.bipush 8) 2 253 from ⟨by decide +kernel, rfl⟩) ?_
  refine J_newa (kd := 20) (n := 8) (show Dc Y_X12_init 253 (.newarray .int) 2 255 from ⟨by decide +kernel, rfl⟩) (by decide) (by decide) rfl w_ac20 (by decide) rfl (by decide) (by decide) (by decide) (fun p61 => ?_)
  refine J_putR (show Dc Y_X12_init 255 (.putfield 84) 3 258 from ⟨by decide +kernel, rfl⟩) w_f_RX12_84 rfl (Or.inl rfl) (fun g62 => ?_) (fun _ => rfl)
  refine J_aload_n rfl rfl (show Dc Y_X12_init 258 (.aload_n 0) 1 259 from ⟨by decide +kernel, rfl⟩) ?_
  refine J_bipush (81 : Int32) rfl (show Dc Y_X12_init 259 (.bipush 81) 2 261 from ⟨by decide +kernel, rfl⟩) ?_
  refine J_newa (kd := 20) (n := 81) (show Dc Y_X12_init 261 (.newarray .int) 2 263 from ⟨by decide +kernel, rfl⟩) (by decide) (by decide) rfl w_ac20 (by decide) rfl (by decide) (by decide) (by decide) (fun p63 => ?_)
  refine J_putR (show Dc Y_X12_init 263 (.putfield 87) 3 266 from ⟨by decide +kernel, rfl⟩) w_f_RX12_87 rfl (Or.inl rfl) (fun g64 => ?_) (fun _ => rfl)
  refine J_aload_n rfl rfl (show Dc Y_X12_init 266 (.aload_n 0) 1 267 from ⟨by decide +kernel, rfl⟩) ?_
  refine J_bipush (12 : Int32) rfl (show Dc Y_X12_init 267 (.bipush 12) 2 269 from ⟨by decide +kernel, rfl⟩) ?_
  refine J_newa (kd := 20) (n := 12) (show Dc Y_X12_init 269 (.newarray .int) 2 271 from ⟨by decide +kernel, rfl⟩) (by decide) (by decide) rfl w_ac20 (by decide) rfl (by decide) (by decide) (by decide) (fun p65 => ?_)
  refine J_putR (show Dc Y_X12_init 271 (.putfield 90) 3 274 from ⟨by decide +kernel, rfl⟩) w_f_RX12_90 rfl (Or.inl rfl) (fun g66 => ?_) (fun _ => rfl)
  refine J_aload_n rfl rfl (show Dc Y_X12_init 274 (.aload_n 0) 1 275 from ⟨by decide +kernel, rfl⟩) ?_
  refine J_bipush (12 : Int32) rfl (show Dc Y_X12_init 275 (.bipush 12) 2 277 from ⟨by decide +kernel, rfl⟩) ?_
  refine J_newa (kd := 20) (n := 12) (show Dc Y_X12_init 277 (.newarray .int) 2 279 from ⟨by decide +kernel, rfl⟩) (by decide) (by decide) rfl w_ac20 (by decide) rfl (by decide) (by decide) (by decide) (fun p67 => ?_)
  refine J_putR (show Dc Y_X12_init 279 (.putfield 93) 3 282 from ⟨by decide +kernel, rfl⟩) w_f_RX12_93 rfl (Or.inl rfl) (fun g68 => ?_) (fun _ => rfl)
  refine J_aload_n rfl rfl (show Dc Y_X12_init 282 (.aload_n 0) 1 283 from ⟨by decide +kernel, rfl⟩) ?_
  refine J_bipush (6 : Int32) rfl (show Dc Y_X12_init 283 (.bipush 6) 2 285 from ⟨by decide +kernel, rfl⟩) ?_
  refine J_newa (kd := 20) (n := 6) (show Dc Y_X12_init 285 (.newarray .int) 2 287 from ⟨by decide +kernel, rfl⟩) (by decide) (by decide) rfl w_ac20 (by decide) rfl (by decide) (by decide) (by decide) (fun p69 => ?_)
  refine J_putR (show Dc Y_X12_init 287 (.putfield 96) 3 290 from ⟨by decide +kernel, rfl⟩) w_f_RX12_96 rfl (Or.inl rfl) (fun g70 => ?_) (fun _ => rfl)
  refine J_aload_n rfl rfl (show Dc Y_X12_init 290 (.aload_n 0) 1 291 from ⟨by decide +kernel, rfl⟩) ?_
  refine J_sipush (434 : Int32) rfl (show Dc Y_X12_init 291 (.sipush 434) 3 294 from ⟨by decide +kernel, rfl⟩) ?_
  refine J_newa (kd := 20) (n := 434) (show Dc Y_X12_init 294 (.newarray .int) 2 296 from ⟨by decide +kernel, rfl⟩) (by decide) (by decide) rfl w_ac20 (by decide) rfl (by decide) (by decide) (by decide) (fun p71 => ?_)
  refine J_putR (show Dc Y_X12_init 296 (.putfield 99) 3 299 from ⟨by decide +kernel, rfl⟩) w_f_RX12_99 rfl (Or.inl rfl) (fun g72 => ?_) (fun _ => rfl)
  refine J_aload_n rfl rfl (show Dc Y_X12_init 299 (.aload_n 0) 1 300 from ⟨by decide +kernel, rfl⟩) ?_
  refine J_iconst (2 : Int32) rfl (show Dc Y_X12_init 300 (.iconst 2) 1 301 from ⟨by decide +kernel, rfl⟩) ?_
  refine J_newa (kd := 22) (n := 2) (show Dc Y_X12_init 301 (.newarray .boolean) 2 303 from ⟨by decide +kernel, rfl⟩) (by decide) (by decide) rfl w_ac22 (by decide) rfl (by decide) (by decide) (by decide) (fun p73 => ?_)
  refine J_putR (show Dc Y_X12_init 303 (.putfield 102) 3 306 from ⟨by decide +kernel, rfl⟩) w_f_RX12_102 rfl (Or.inl rfl) (fun g74 => ?_) (fun _ => rfl)
  refine J_aload_n rfl rfl (show Dc Y_X12_init 306 (.aload_n 0) 1 307 from ⟨by decide +kernel, rfl⟩) ?_
  refine J_iconst (2 : Int32) rfl (show Dc Y_X12_init 307 (.iconst 2) 1 308 from ⟨by decide +kernel, rfl⟩) ?_
  refine J_newa (kd := 20) (n := 2) (show Dc Y_X12_init 308 (.newarray .int) 2 310 from ⟨by decide +kernel, rfl⟩) (by decide) (by decide) rfl w_ac20 (by decide) rfl (by decide) (by decide) (by decide) (fun p75 => ?_)
  refine J_putR (show Dc Y_X12_init 310 (.putfield 106) 3 313 from ⟨by decide +kernel, rfl⟩) w_f_RX12_106 rfl (Or.inl rfl) (fun g76 => ?_) (fun _ => rfl)
  exact J_ret0 (show Dc Y_X12_init 313 (.return_) 1 314 from ⟨by decide +kernel, rfl⟩) rfl (h0 _) (by decide) (by decide)

theorem c_X12_init {l : Launch} {D : ZD} {B0 : Nat} (x0 : Nat) (g : ZS) : ∀ r, f_X12_init x0 g = some r → zCt l D B0 yX12_init Y_X12_init [.ref x0] g none r :=
  zCt_ofF (vo := fun _ => none) (so := fun r => r) (by decide +kernel) rfl (fun _ => rfl) rfl (Nat.le_of_ble_eq_true rfl) (fun X => j_X12_init x0 g (fun _ h => h))

theorem j_X8_add_16 {X : ZX} (N : Nat) (x0 : Nat) (x1 : Int32) (x2 : Int32)   (g : ZS) {K : ((Int32 × ZS) ⊕ (Int32 × ZS)) → Prop} (h0 : ∀ v g, K (.inr (v, g)) → xK X (some (.int v)) g) (hL16 : ∀ s, K (.inl s) → zG Y_X8_add X 0 0 16 [some (.ref x0), some (.int x1), some (.int s.1)] [] s.2) : J Y_X8_add X 0 0 16 [some (.ref x0), some (.int x1), some (.int x2)] [] g (f_X8_add_16 N x0 x1 x2 g) K := by
  unfold f_X8_add_16
  refine J_iload_n rfl rfl (show Dc Y_X8_add 16 (.iload_n 2) 1 17 from ⟨by decide +kernel, rfl⟩) ?_
  refine J_if_lt (tg := 53) (show Dc Y_X8_add 17 (.ifCond .lt 36) 3 20 from ⟨by decide +kernel, rfl⟩) (by decide) (fun h => ?_) (fun h => ?_)
  · refine J_map (f := Sum.inr) (fun _ h => h) ?_
    refine J_iconst (1 : Int32) rfl (show Dc Y_X8_add 53 (.iconst 1) 1 54 from ⟨by decide +kernel, rfl⟩) ?_
    exact J_retz rfl (show Dc Y_X8_add 54 (.ireturn) 1 55 from ⟨by decide +kernel, rfl⟩) rfl (h0 _ _) (by decide) (by decide)
  · refine J_aload_n rfl rfl (show Dc Y_X8_add 20 (.aload_n 0) 1 21 from ⟨by decide +kernel, rfl⟩) ?_
    refine J_getR (show Dc Y_X8_add 21 (.getfield 9) 3 24 from ⟨by decide +kernel, rfl⟩) w_f_RX8_9 rfl (fun v1 => ?_)
    refine J_aload_n rfl rfl (show Dc Y_X8_add 24 (.aload_n 0) 1 25 from ⟨by decide +kernel, rfl⟩) ?_
    refine J_getI (show Dc Y_X8_add 25 (.getfield 15) 3 28 from ⟨by decide +kernel, rfl⟩) w_f_RX8_15 rfl (fun v2 => ?_)
    refine J_iload_n rfl rfl (show Dc Y_X8_add 28 (.iload_n 1) 1 29 from ⟨by decide +kernel, rfl⟩) ?_
    refine J_iload_n rfl rfl (show Dc Y_X8_add 29 (.iload_n 2) 1 30 from ⟨by decide +kernel, rfl⟩) ?_
    refine J_iushr (show Dc Y_X8_add 30 (.iushr) 1 31 from ⟨by decide +kernel, rfl⟩) ?_
    refine J_sipush (255 : Int32) rfl (show Dc Y_X8_add 31 (.sipush 255) 3 34 from ⟨by decide +kernel, rfl⟩) ?_
    refine J_iand (show Dc Y_X8_add 34 (.iand) 1 35 from ⟨by decide +kernel, rfl⟩) ?_
    refine J_i2c (show Dc Y_X8_add 35 (.i2c) 1 36 from ⟨by decide +kernel, rfl⟩) ?_
    refine J_cast (show Dc Y_X8_add 36 (.castore) 1 37 from ⟨by decide +kernel, rfl⟩) (fun g3 => ?_)
    refine J_aload_n rfl rfl (show Dc Y_X8_add 37 (.aload_n 0) 1 38 from ⟨by decide +kernel, rfl⟩) ?_
    refine J_dup rfl (show Dc Y_X8_add 38 (.dup) 1 39 from ⟨by decide +kernel, rfl⟩) ?_
    refine J_getI (show Dc Y_X8_add 39 (.getfield 15) 3 42 from ⟨by decide +kernel, rfl⟩) w_f_RX8_15 rfl (fun v4 => ?_)
    refine J_iconst (1 : Int32) rfl (show Dc Y_X8_add 42 (.iconst 1) 1 43 from ⟨by decide +kernel, rfl⟩) ?_
    refine J_iadd (show Dc Y_X8_add 43 (.iadd) 1 44 from ⟨by decide +kernel, rfl⟩) ?_
    refine J_putI (show Dc Y_X8_add 44 (.putfield 15) 3 47 from ⟨by decide +kernel, rfl⟩) w_f_RX8_15 rfl rfl (fun g5 => ?_) (fun h => by cases h)
    refine J_iinc (-8 : Int32) [some (.ref x0), some (.int x1), some (.int (x2 + (-8 : Int32)))] (show Dc Y_X8_add 47 (.iinc 2 (-8)) 3 50 from ⟨by decide +kernel, rfl⟩) rfl rfl (by decide) rfl rfl ?_
    refine J_goto (tg := 16) (show Dc Y_X8_add 50 (.goto (-34)) 3 53 from ⟨by decide +kernel, rfl⟩) (by decide) ?_
    exact J_leaf (fun h => hL16 (x2 + (-8 : Int32), g5) h)

theorem j_X8_add {X : ZX} (N : Nat) (x0 : Nat) (x1 : Int32)   (g : ZS) {K : (Int32 × ZS) → Prop} (h0 : ∀ v g, K (v, g) → xK X (some (.int v)) g) : J Y_X8_add X 0 0 0 [some (.ref x0), some (.int x1), none] [] g (f_X8_add N x0 x1 g) K := by
  unfold f_X8_add
  refine J_aload_n rfl rfl (show Dc Y_X8_add 0 (.aload_n 0) 1 1 from ⟨by decide +kernel, rfl⟩) ?_
  refine J_getI (show Dc Y_X8_add 1 (.getfield 15) 3 4 from ⟨by decide +kernel, rfl⟩) w_f_RX8_15 rfl (fun v1 => ?_)
  refine J_iconst (4 : Int32) rfl (show Dc Y_X8_add 4 (.iconst 4) 1 5 from ⟨by decide +kernel, rfl⟩) ?_
  refine J_iadd (show Dc Y_X8_add 5 (.iadd) 1 6 from ⟨by decide +kernel, rfl⟩) ?_
  refine J_bipush (80 : Int32) rfl (show Dc Y_X8_add 6 (.bipush 80) 2 8 from ⟨by decide +kernel, rfl⟩) ?_
  refine J_icmp_le (tg := 13) (show Dc Y_X8_add 8 (.if_icmp .le 5) 3 11 from ⟨by decide +kernel, rfl⟩) (by decide) (fun h => ?_) (fun h => ?_)
  · refine J_bipush (24 : Int32) rfl (show Dc Y_X8_add 13 (.bipush 24) 2 15 from ⟨by decide +kernel, rfl⟩) ?_
    refine J_istore_n [some (.ref x0), some (.int x1), some (.int (24 : Int32))] (show Dc Y_X8_add 15 (.istore_n 2) 1 16 from ⟨by decide +kernel, rfl⟩) rfl (by decide) rfl rfl ?_
    exact J_loop (X := X) (K := K) (uc := fun _ => 0) (us := fun _ => 0) (lf := fun s => [some (.ref x0), some (.int x1), some (.int s.1)]) (gf := fun s => s.2) (fun s => j_X8_add_16 (K := zKl Y_X8_add X 16 (fun _ => 0) (fun _ => 0) (fun s => [some (.ref x0), some (.int x1), some (.int s.1)]) (fun s => s.2) K) N x0 x1 s.1 s.2 h0 (fun s h => h)) N ((24 : Int32), g)
  · refine J_iconst (0 : Int32) rfl (show Dc Y_X8_add 11 (.iconst 0) 1 12 from ⟨by decide +kernel, rfl⟩) ?_
    exact J_retz rfl (show Dc Y_X8_add 12 (.ireturn) 1 13 from ⟨by decide +kernel, rfl⟩) rfl (h0 _ _) (by decide) (by decide)

theorem c_X8_add {l : Launch} {D : ZD} {B0 : Nat} (N : Nat) (x0 : Nat) (x1 : Int32) (g : ZS) : ∀ r, f_X8_add N x0 x1 g = some r → zCt l D B0 yX8_add Y_X8_add [.ref x0, .int x1] g (some (.int r.1)) r.2 :=
  zCt_ofF (vo := fun r => some (.int r.1)) (so := fun r => r.2) (by decide +kernel) rfl (fun h => by cases h) rfl (Nat.le_of_ble_eq_true rfl) (fun X => j_X8_add N x0 x1 g (fun _ _ h => h))

theorem j_X11_sign_22 {X : ZX} (N : Nat)  (s0 : Int32)  (g : ZS) {K : (Int32 × ZS) → Prop} (h0 : ∀ v g, K (v, g) → xK X (some (.int v)) g) : J Y_X11_sign X 0 0 22 [none, none] [.int s0] g (f_X11_sign_22 N s0 g) K := by
  unfold f_X11_sign_22
  exact J_reti (show Dc Y_X11_sign 22 (.ireturn) 1 23 from ⟨by decide +kernel, rfl⟩) rfl (h0 _ _) (by decide) (by decide)

theorem j_X11_sign {X : ZX} (N : Nat) (x0 : Nat) (x1 : Int32)   (g : ZS) {K : (Int32 × ZS) → Prop} (h0 : ∀ v g, K (v, g) → xK X (some (.int v)) g) : J Y_X11_sign X 0 0 0 [some (.ref x0), some (.int x1)] [] g (f_X11_sign N x0 x1 g) K := by
  unfold f_X11_sign
  refine J_aload_n rfl rfl (show Dc Y_X11_sign 0 (.aload_n 0) 1 1 from ⟨by decide +kernel, rfl⟩) ?_
  refine J_getR (show Dc Y_X11_sign 1 (.getfield 10) 3 4 from ⟨by decide +kernel, rfl⟩) w_f_RX11_10 rfl (fun v1 => ?_)
  refine J_iload_n rfl rfl (show Dc Y_X11_sign 4 (.iload_n 1) 1 5 from ⟨by decide +kernel, rfl⟩) ?_
  refine J_callVi (fun r => r.1) (fun r => r.2) (show Dc Y_X11_sign 5 (.invokevirtual 106) 3 8 from ⟨by decide +kernel, rfl⟩) w_m_RX11_106 w_in_X8_add rfl w_se_X8_add w_cw_X8_add (c_X8_add N v1 x1 g) rfl rfl (by decide) (Nat.le_of_ble_eq_true rfl) (by decide) (by decide) (fun r2 => ?_)
  refine J_if_eq (tg := 21) (show Dc Y_X11_sign 8 (.ifCond .eq 13) 3 11 from ⟨by decide +kernel, rfl⟩) (by decide) (fun h => ?_) (fun h => ?_)
  · refine J_iconst (-1 : Int32) rfl (show Dc Y_X11_sign 21 (.iconst (-1)) 1 22 from ⟨by decide +kernel, rfl⟩) ?_
    refine J_mask [false, false] ?_
    exact j_X11_sign_22 N (-1 : Int32) r2.2 h0
  · refine J_aload_n rfl rfl (show Dc Y_X11_sign 11 (.aload_n 0) 1 12 from ⟨by decide +kernel, rfl⟩) ?_
    refine J_getR (show Dc Y_X11_sign 12 (.getfield 10) 3 15 from ⟨by decide +kernel, rfl⟩) w_f_RX11_10 rfl (fun v3 => ?_)
    refine J_getI (show Dc Y_X11_sign 15 (.getfield 110) 3 18 from ⟨by decide +kernel, rfl⟩) w_f_RX11_110 rfl (fun v4 => ?_)
    refine J_goto (tg := 22) (show Dc Y_X11_sign 18 (.goto 4) 3 21 from ⟨by decide +kernel, rfl⟩) (by decide) ?_
    refine J_mask [false, false] ?_
    exact j_X11_sign_22 N v4 r2.2 h0

theorem c_X11_sign {l : Launch} {D : ZD} {B0 : Nat} (N : Nat) (x0 : Nat) (x1 : Int32) (g : ZS) : ∀ r, f_X11_sign N x0 x1 g = some r → zCt l D B0 yX11_sign Y_X11_sign [.ref x0, .int x1] g (some (.int r.1)) r.2 :=
  zCt_ofF (vo := fun r => some (.int r.1)) (so := fun r => r.2) (by decide +kernel) rfl (fun h => by cases h) rfl (Nat.le_of_ble_eq_true rfl) (fun X => j_X11_sign N x0 x1 g (fun _ _ h => h))

theorem j_X12_sign_20 {X : ZX} (N : Nat) (x0 : Nat) (x1 : Int32) (x2 : Int32)   (g : ZS) {K : ((Int32 × ZS) ⊕ (Int32 × ZS)) → Prop} (h0 : ∀ v g, K (.inr (v, g)) → xK X (some (.int v)) g) (hL20 : ∀ s, K (.inl s) → zG Y_X12_sign X 0 0 20 [some (.ref x0), some (.int x1), some (.int s.1)] [] s.2) : J Y_X12_sign X 0 0 20 [some (.ref x0), some (.int x1), some (.int x2)] [] g (f_X12_sign_20 N x0 x1 x2 g) K := by
  unfold f_X12_sign_20
  refine J_iload_n rfl rfl (show Dc Y_X12_sign 20 (.iload_n 2) 1 21 from ⟨by decide +kernel, rfl⟩) ?_
  refine J_if_lt (tg := 53) (show Dc Y_X12_sign 21 (.ifCond .lt 32) 3 24 from ⟨by decide +kernel, rfl⟩) (by decide) (fun h => ?_) (fun h => ?_)
  · refine J_map (f := Sum.inr) (fun _ h => h) ?_
    refine J_aload_n rfl rfl (show Dc Y_X12_sign 53 (.aload_n 0) 1 54 from ⟨by decide +kernel, rfl⟩) ?_
    refine J_getI (show Dc Y_X12_sign 54 (.getfield 123) 3 57 from ⟨by decide +kernel, rfl⟩) w_f_RX12_123 rfl (fun v1 => ?_)
    exact J_reti (show Dc Y_X12_sign 57 (.ireturn) 1 58 from ⟨by decide +kernel, rfl⟩) rfl (h0 _ _) (by decide) (by decide)
  · refine J_aload_n rfl rfl (show Dc Y_X12_sign 24 (.aload_n 0) 1 25 from ⟨by decide +kernel, rfl⟩) ?_
    refine J_getR (show Dc Y_X12_sign 25 (.getfield 25) 3 28 from ⟨by decide +kernel, rfl⟩) w_f_RX12_25 rfl (fun v2 => ?_)
    refine J_aload_n rfl rfl (show Dc Y_X12_sign 28 (.aload_n 0) 1 29 from ⟨by decide +kernel, rfl⟩) ?_
    refine J_dup rfl (show Dc Y_X12_sign 29 (.dup) 1 30 from ⟨by decide +kernel, rfl⟩) ?_
    refine J_getI (show Dc Y_X12_sign 30 (.getfield 123) 3 33 from ⟨by decide +kernel, rfl⟩) w_f_RX12_123 rfl (fun v3 => ?_)
    refine J_dup_x1 rfl rfl (show Dc Y_X12_sign 33 (.dup_x1) 1 34 from ⟨by decide +kernel, rfl⟩) ?_
    refine J_iconst (1 : Int32) rfl (show Dc Y_X12_sign 34 (.iconst 1) 1 35 from ⟨by decide +kernel, rfl⟩) ?_
    refine J_iadd (show Dc Y_X12_sign 35 (.iadd) 1 36 from ⟨by decide +kernel, rfl⟩) ?_
    refine J_putI (show Dc Y_X12_sign 36 (.putfield 123) 3 39 from ⟨by decide +kernel, rfl⟩) w_f_RX12_123 rfl rfl (fun g4 => ?_) (fun h => by cases h)
    refine J_iload_n rfl rfl (show Dc Y_X12_sign 39 (.iload_n 1) 1 40 from ⟨by decide +kernel, rfl⟩) ?_
    refine J_bipush (8 : Int32) rfl (show Dc Y_X12_sign 40 (.bipush 8) 2 42 from ⟨by decide +kernel, rfl⟩) ?_
    refine J_iload_n rfl rfl (show Dc Y_X12_sign 42 (.iload_n 2) 1 43 from ⟨by decide +kernel, rfl⟩) ?_
    refine J_imul (show Dc Y_X12_sign 43 (.imul) 1 44 from ⟨by decide +kernel, rfl⟩) ?_
    refine J_ishr (show Dc Y_X12_sign 44 (.ishr) 1 45 from ⟨by decide +kernel, rfl⟩) ?_
    refine J_i2b (show Dc Y_X12_sign 45 (.i2b) 1 46 from ⟨by decide +kernel, rfl⟩) ?_
    refine J_bast (show Dc Y_X12_sign 46 (.bastore) 1 47 from ⟨by decide +kernel, rfl⟩) (fun g5 => ?_)
    refine J_iinc (-1 : Int32) [some (.ref x0), some (.int x1), some (.int (x2 + (-1 : Int32)))] (show Dc Y_X12_sign 47 (.iinc 2 (-1)) 3 50 from ⟨by decide +kernel, rfl⟩) rfl rfl (by decide) rfl rfl ?_
    refine J_goto (tg := 20) (show Dc Y_X12_sign 50 (.goto (-30)) 3 53 from ⟨by decide +kernel, rfl⟩) (by decide) ?_
    exact J_leaf (fun h => hL20 (x2 + (-1 : Int32), g5) h)

theorem j_X12_sign {X : ZX} (N : Nat) (x0 : Nat) (x1 : Int32)   (g : ZS) {K : (Int32 × ZS) → Prop} (h0 : ∀ v g, K (v, g) → xK X (some (.int v)) g) : J Y_X12_sign X 0 0 0 [some (.ref x0), some (.int x1), none] [] g (f_X12_sign N x0 x1 g) K := by
  unfold f_X12_sign
  refine J_aload_n rfl rfl (show Dc Y_X12_sign 0 (.aload_n 0) 1 1 from ⟨by decide +kernel, rfl⟩) ?_
  refine J_iconst (0 : Int32) rfl (show Dc Y_X12_sign 1 (.iconst 0) 1 2 from ⟨by decide +kernel, rfl⟩) ?_
  refine J_putI (show Dc Y_X12_sign 2 (.putfield 109) 3 5 from ⟨by decide +kernel, rfl⟩) w_f_RX12_109 rfl rfl (fun g1 => ?_) (fun h => by cases h)
  refine J_aload_n rfl rfl (show Dc Y_X12_sign 5 (.aload_n 0) 1 6 from ⟨by decide +kernel, rfl⟩) ?_
  refine J_getI (show Dc Y_X12_sign 6 (.getfield 123) 3 9 from ⟨by decide +kernel, rfl⟩) w_f_RX12_123 rfl (fun v2 => ?_)
  refine J_iconst (4 : Int32) rfl (show Dc Y_X12_sign 9 (.iconst 4) 1 10 from ⟨by decide +kernel, rfl⟩) ?_
  refine J_iadd (show Dc Y_X12_sign 10 (.iadd) 1 11 from ⟨by decide +kernel, rfl⟩) ?_
  refine J_bipush (80 : Int32) rfl (show Dc Y_X12_sign 11 (.bipush 80) 2 13 from ⟨by decide +kernel, rfl⟩) ?_
  refine J_icmp_le (tg := 18) (show Dc Y_X12_sign 13 (.if_icmp .le 5) 3 16 from ⟨by decide +kernel, rfl⟩) (by decide) (fun h => ?_) (fun h => ?_)
  · refine J_iconst (3 : Int32) rfl (show Dc Y_X12_sign 18 (.iconst 3) 1 19 from ⟨by decide +kernel, rfl⟩) ?_
    refine J_istore_n [some (.ref x0), some (.int x1), some (.int (3 : Int32))] (show Dc Y_X12_sign 19 (.istore_n 2) 1 20 from ⟨by decide +kernel, rfl⟩) rfl (by decide) rfl rfl ?_
    exact J_loop (X := X) (K := K) (uc := fun _ => 0) (us := fun _ => 0) (lf := fun s => [some (.ref x0), some (.int x1), some (.int s.1)]) (gf := fun s => s.2) (fun s => j_X12_sign_20 (K := zKl Y_X12_sign X 20 (fun _ => 0) (fun _ => 0) (fun s => [some (.ref x0), some (.int x1), some (.int s.1)]) (fun s => s.2) K) N x0 x1 s.1 s.2 h0 (fun s h => h)) N ((3 : Int32), g1)
  · refine J_iconst (-1 : Int32) rfl (show Dc Y_X12_sign 16 (.iconst (-1)) 1 17 from ⟨by decide +kernel, rfl⟩) ?_
    exact J_reti (show Dc Y_X12_sign 17 (.ireturn) 1 18 from ⟨by decide +kernel, rfl⟩) rfl (h0 _ _) (by decide) (by decide)

theorem c_X12_sign {l : Launch} {D : ZD} {B0 : Nat} (N : Nat) (x0 : Nat) (x1 : Int32) (g : ZS) : ∀ r, f_X12_sign N x0 x1 g = some r → zCt l D B0 yX12_sign Y_X12_sign [.ref x0, .int x1] g (some (.int r.1)) r.2 :=
  zCt_ofF (vo := fun r => some (.int r.1)) (so := fun r => r.2) (by decide +kernel) rfl (fun h => by cases h) rfl (Nat.le_of_ble_eq_true rfl) (fun X => j_X12_sign N x0 x1 g (fun _ _ h => h))

theorem j_X11_end_15 {X : ZX}    (g : ZS) {K : (Int32 × ZS) → Prop} (h0 : ∀ v g, K (v, g) → xK X (some (.int v)) g) : J Y_X11_end X 0 0 15 [none, none] [] g (f_X11_end_15 g) K := by
  unfold f_X11_end_15
  refine J_iconst (0 : Int32) rfl (show Dc Y_X11_end 15 (.iconst 0) 1 16 from ⟨by decide +kernel, rfl⟩) ?_
  exact J_retz rfl (show Dc Y_X11_end 16 (.ireturn) 1 17 from ⟨by decide +kernel, rfl⟩) rfl (h0 _ _) (by decide) (by decide)

theorem j_X11_end {X : ZX} (x0 : Nat) (x1 : Int32)   (g : ZS) {K : (Int32 × ZS) → Prop} (h0 : ∀ v g, K (v, g) → xK X (some (.int v)) g) : J Y_X11_end X 0 0 0 [some (.ref x0), some (.int x1)] [] g (f_X11_end x0 x1 g) K := by
  unfold f_X11_end
  refine J_iload_n rfl rfl (show Dc Y_X11_end 0 (.iload_n 1) 1 1 from ⟨by decide +kernel, rfl⟩) ?_
  refine J_if_lt (tg := 15) (show Dc Y_X11_end 1 (.ifCond .lt 14) 3 4 from ⟨by decide +kernel, rfl⟩) (by decide) (fun h => ?_) (fun h => ?_)
  · refine J_mask [false, false] ?_
    exact j_X11_end_15 g h0
  · refine J_iload_n rfl rfl (show Dc Y_X11_end 4 (.iload_n 1) 1 5 from ⟨by decide +kernel, rfl⟩) ?_
    refine J_aload_n rfl rfl (show Dc Y_X11_end 5 (.aload_n 0) 1 6 from ⟨by decide +kernel, rfl⟩) ?_
    refine J_getR (show Dc Y_X11_end 6 (.getfield 10) 3 9 from ⟨by decide +kernel, rfl⟩) w_f_RX11_10 rfl (fun v1 => ?_)
    refine J_getI (show Dc Y_X11_end 9 (.getfield 110) 3 12 from ⟨by decide +kernel, rfl⟩) w_f_RX11_110 rfl (fun v2 => ?_)
    refine J_icmp_le (tg := 17) (show Dc Y_X11_end 12 (.if_icmp .le 5) 3 15 from ⟨by decide +kernel, rfl⟩) (by decide) (fun h => ?_) (fun h => ?_)
    · refine J_aload_n rfl rfl (show Dc Y_X11_end 17 (.aload_n 0) 1 18 from ⟨by decide +kernel, rfl⟩) ?_
      refine J_getR (show Dc Y_X11_end 18 (.getfield 10) 3 21 from ⟨by decide +kernel, rfl⟩) w_f_RX11_10 rfl (fun v3 => ?_)
      refine J_iload_n rfl rfl (show Dc Y_X11_end 21 (.iload_n 1) 1 22 from ⟨by decide +kernel, rfl⟩) ?_
      refine J_putI (show Dc Y_X11_end 22 (.putfield 110) 3 25 from ⟨by decide +kernel, rfl⟩) w_f_RX11_110 rfl rfl (fun g4 => ?_) (fun h => by cases h)
      refine J_iconst (1 : Int32) rfl (show Dc Y_X11_end 25 (.iconst 1) 1 26 from ⟨by decide +kernel, rfl⟩) ?_
      exact J_retz rfl (show Dc Y_X11_end 26 (.ireturn) 1 27 from ⟨by decide +kernel, rfl⟩) rfl (h0 _ _) (by decide) (by decide)
    · refine J_mask [false, false] ?_
      exact j_X11_end_15 g h0

theorem c_X11_end {l : Launch} {D : ZD} {B0 : Nat} (x0 : Nat) (x1 : Int32) (g : ZS) : ∀ r, f_X11_end x0 x1 g = some r → zCt l D B0 yX11_end Y_X11_end [.ref x0, .int x1] g (some (.int r.1)) r.2 :=
  zCt_ofF (vo := fun r => some (.int r.1)) (so := fun r => r.2) (by decide +kernel) rfl (fun h => by cases h) rfl (Nat.le_of_ble_eq_true rfl) (fun X => j_X11_end x0 x1 g (fun _ _ h => h))

theorem j_X12_in_15 {X : ZX}  (s0 : Int32)  (g : ZS) {K : Int32 → Prop} (h0 : ∀ v, K v → xK X (some (.int v)) g) : J Y_X12_in X 0 0 15 [none, none, none] [.int s0] g (f_X12_in_15 s0) K := by
  unfold f_X12_in_15
  exact J_retZ (show Dc Y_X12_in 15 (.ireturn) 1 16 from ⟨by decide +kernel, rfl⟩) rfl (h0 _) (by decide) (by decide)

theorem j_X12_in_14 {X : ZX}    (g : ZS) {K : Int32 → Prop} (h0 : ∀ v, K v → xK X (some (.int v)) g) : J Y_X12_in X 0 0 14 [none, none, none] [] g (f_X12_in_14) K := by
  unfold f_X12_in_14
  refine J_iconst (0 : Int32) rfl (show Dc Y_X12_in 14 (.iconst 0) 1 15 from ⟨by decide +kernel, rfl⟩) ?_
  exact j_X12_in_15 (0 : Int32) g h0

theorem j_X12_in {X : ZX} (x0 : Int32) (x1 : Int32) (x2 : Int32)   (g : ZS) {K : Int32 → Prop} (h0 : ∀ v, K v → xK X (some (.int v)) g) : J Y_X12_in X 0 0 0 [some (.int x0), some (.int x1), some (.int x2)] [] g (f_X12_in x0 x1 x2) K := by
  unfold f_X12_in
  refine J_iload_n rfl rfl (show Dc Y_X12_in 0 (.iload_n 0) 1 1 from ⟨by decide +kernel, rfl⟩) ?_
  refine J_iload_n rfl rfl (show Dc Y_X12_in 1 (.iload_n 1) 1 2 from ⟨by decide +kernel, rfl⟩) ?_
  refine J_icmp_lt (tg := 14) (show Dc Y_X12_in 2 (.if_icmp .lt 12) 3 5 from ⟨by decide +kernel, rfl⟩) (by decide) (fun h => ?_) (fun h => ?_)
  · refine J_mask [false, false, false] ?_
    exact j_X12_in_14 g h0
  · refine J_iload_n rfl rfl (show Dc Y_X12_in 5 (.iload_n 0) 1 6 from ⟨by decide +kernel, rfl⟩) ?_
    refine J_iload_n rfl rfl (show Dc Y_X12_in 6 (.iload_n 2) 1 7 from ⟨by decide +kernel, rfl⟩) ?_
    refine J_icmp_gt (tg := 14) (show Dc Y_X12_in 7 (.if_icmp .gt 7) 3 10 from ⟨by decide +kernel, rfl⟩) (by decide) (fun h => ?_) (fun h => ?_)
    · refine J_mask [false, false, false] ?_
      exact j_X12_in_14 g h0
    · refine J_iconst (1 : Int32) rfl (show Dc Y_X12_in 10 (.iconst 1) 1 11 from ⟨by decide +kernel, rfl⟩) ?_
      refine J_goto (tg := 15) (show Dc Y_X12_in 11 (.goto 4) 3 14 from ⟨by decide +kernel, rfl⟩) (by decide) ?_
      refine J_mask [false, false, false] ?_
      exact j_X12_in_15 (1 : Int32) g h0

theorem c_X12_in {l : Launch} {D : ZD} {B0 : Nat} (x0 : Int32) (x1 : Int32) (x2 : Int32) (g : ZS) : ∀ r, f_X12_in x0 x1 x2 = some r → zCt l D B0 yX12_in Y_X12_in [.int x0, .int x1, .int x2] g (some (.int r)) g :=
  zCt_ofF (vo := fun r => some (.int r)) (so := fun _ => g) (by decide +kernel) rfl (fun h => by cases h) rfl (Nat.le_of_ble_eq_true rfl) (fun X => j_X12_in x0 x1 x2 g (fun _ h => h))

theorem j_X12_end {X : ZX} (x0 : Nat) (x1 : Int32)   (g : ZS) {K : (Int32 × ZS) → Prop} (h0 : ∀ v g, K (v, g) → xK X (some (.int v)) g) : J Y_X12_end X 0 0 0 [some (.ref x0), some (.int x1)] [] g (f_X12_end x0 x1 g) K := by
  unfold f_X12_end
  refine J_aload_n rfl rfl (show Dc Y_X12_end 0 (.aload_n 0) 1 1 from ⟨by decide +kernel, rfl⟩) ?_
  refine J_iconst (0 : Int32) rfl (show Dc Y_X12_end 1 (.iconst 0) 1 2 from ⟨by decide +kernel, rfl⟩) ?_
  refine J_putI (show Dc Y_X12_end 2 (.putfield 109) 3 5 from ⟨by decide +kernel, rfl⟩) w_f_RX12_109 rfl rfl (fun g1 => ?_) (fun h => by cases h)
  refine J_iload_n rfl rfl (show Dc Y_X12_end 5 (.iload_n 1) 1 6 from ⟨by decide +kernel, rfl⟩) ?_
  refine J_iconst (0 : Int32) rfl (show Dc Y_X12_end 6 (.iconst 0) 1 7 from ⟨by decide +kernel, rfl⟩) ?_
  refine J_aload_n rfl rfl (show Dc Y_X12_end 7 (.aload_n 0) 1 8 from ⟨by decide +kernel, rfl⟩) ?_
  refine J_getI (show Dc Y_X12_end 8 (.getfield 123) 3 11 from ⟨by decide +kernel, rfl⟩) w_f_RX12_123 rfl (fun v2 => ?_)
  refine J_callSi (fun r => r) (fun _ => g1) (show Dc Y_X12_end 11 (.invokestatic 119) 3 14 from ⟨by decide +kernel, rfl⟩) w_m_RX12_119 w_st_X12_in w_cw_X12_in (c_X12_in x1 (0 : Int32) v2 g1) rfl rfl (by decide) (Nat.le_of_ble_eq_true rfl) (by decide) (by decide) (fun v3 => ?_)
  refine J_if_ne (tg := 19) (show Dc Y_X12_end 14 (.ifCond .ne 5) 3 17 from ⟨by decide +kernel, rfl⟩) (by decide) (fun h => ?_) (fun h => ?_)
  · refine J_aload_n rfl rfl (show Dc Y_X12_end 19 (.aload_n 0) 1 20 from ⟨by decide +kernel, rfl⟩) ?_
    refine J_iload_n rfl rfl (show Dc Y_X12_end 20 (.iload_n 1) 1 21 from ⟨by decide +kernel, rfl⟩) ?_
    refine J_putI (show Dc Y_X12_end 21 (.putfield 123) 3 24 from ⟨by decide +kernel, rfl⟩) w_f_RX12_123 rfl rfl (fun g4 => ?_) (fun h => by cases h)
    refine J_iconst (1 : Int32) rfl (show Dc Y_X12_end 24 (.iconst 1) 1 25 from ⟨by decide +kernel, rfl⟩) ?_
    exact J_retz rfl (show Dc Y_X12_end 25 (.ireturn) 1 26 from ⟨by decide +kernel, rfl⟩) rfl (h0 _ _) (by decide) (by decide)
  · refine J_iconst (0 : Int32) rfl (show Dc Y_X12_end 17 (.iconst 0) 1 18 from ⟨by decide +kernel, rfl⟩) ?_
    exact J_retz rfl (show Dc Y_X12_end 18 (.ireturn) 1 19 from ⟨by decide +kernel, rfl⟩) rfl (h0 _ _) (by decide) (by decide)

theorem c_X12_end {l : Launch} {D : ZD} {B0 : Nat} (x0 : Nat) (x1 : Int32) (g : ZS) : ∀ r, f_X12_end x0 x1 g = some r → zCt l D B0 yX12_end Y_X12_end [.ref x0, .int x1] g (some (.int r.1)) r.2 :=
  zCt_ofF (vo := fun r => some (.int r.1)) (so := fun r => r.2) (by decide +kernel) rfl (fun h => by cases h) rfl (Nat.le_of_ble_eq_true rfl) (fun X => j_X12_end x0 x1 g (fun _ _ h => h))

theorem j_X11_isHouse_14 {X : ZX}  (s0 : Int32)  (g : ZS) {K : Int32 → Prop} (h0 : ∀ v, K v → xK X (some (.int v)) g) : J Y_X11_isHouse X 0 0 14 [none] [.int s0] g (f_X11_isHouse_14 s0) K := by
  unfold f_X11_isHouse_14
  exact J_retZ (show Dc Y_X11_isHouse 14 (.ireturn) 1 15 from ⟨by decide +kernel, rfl⟩) rfl (h0 _) (by decide) (by decide)

theorem j_X11_isHouse_13 {X : ZX}    (g : ZS) {K : Int32 → Prop} (h0 : ∀ v, K v → xK X (some (.int v)) g) : J Y_X11_isHouse X 0 0 13 [none] [] g (f_X11_isHouse_13) K := by
  unfold f_X11_isHouse_13
  refine J_iconst (0 : Int32) rfl (show Dc Y_X11_isHouse 13 (.iconst 0) 1 14 from ⟨by decide +kernel, rfl⟩) ?_
  exact j_X11_isHouse_14 (0 : Int32) g h0

theorem j_X11_isHouse {X : ZX} (x0 : Int32)   (g : ZS) {K : Int32 → Prop} (h0 : ∀ v, K v → xK X (some (.int v)) g) : J Y_X11_isHouse X 0 0 0 [some (.int x0)] [] g (f_X11_isHouse x0) K := by
  unfold f_X11_isHouse
  refine J_iload_n rfl rfl (show Dc Y_X11_isHouse 0 (.iload_n 0) 1 1 from ⟨by decide +kernel, rfl⟩) ?_
  refine J_if_lt (tg := 13) (show Dc Y_X11_isHouse 1 (.ifCond .lt 12) 3 4 from ⟨by decide +kernel, rfl⟩) (by decide) (fun h => ?_) (fun h => ?_)
  · refine J_mask [false] ?_
    exact j_X11_isHouse_13 g h0
  · refine J_iload_n rfl rfl (show Dc Y_X11_isHouse 4 (.iload_n 0) 1 5 from ⟨by decide +kernel, rfl⟩) ?_
    refine J_iconst (4 : Int32) rfl (show Dc Y_X11_isHouse 5 (.iconst 4) 1 6 from ⟨by decide +kernel, rfl⟩) ?_
    refine J_icmp_ge (tg := 13) (show Dc Y_X11_isHouse 6 (.if_icmp .ge 7) 3 9 from ⟨by decide +kernel, rfl⟩) (by decide) (fun h => ?_) (fun h => ?_)
    · refine J_mask [false] ?_
      exact j_X11_isHouse_13 g h0
    · refine J_iconst (1 : Int32) rfl (show Dc Y_X11_isHouse 9 (.iconst 1) 1 10 from ⟨by decide +kernel, rfl⟩) ?_
      refine J_goto (tg := 14) (show Dc Y_X11_isHouse 10 (.goto 4) 3 13 from ⟨by decide +kernel, rfl⟩) (by decide) ?_
      refine J_mask [false] ?_
      exact j_X11_isHouse_14 (1 : Int32) g h0

theorem c_X11_isHouse {l : Launch} {D : ZD} {B0 : Nat} (x0 : Int32) (g : ZS) : ∀ r, f_X11_isHouse x0 = some r → zCt l D B0 yX11_isHouse Y_X11_isHouse [.int x0] g (some (.int r)) g :=
  zCt_ofF (vo := fun r => some (.int r)) (so := fun _ => g) (by decide +kernel) rfl (fun h => by cases h) rfl (Nat.le_of_ble_eq_true rfl) (fun X => j_X11_isHouse x0 g (fun _ h => h))

theorem j_X8_at_22 {X : ZX}  (s0 : Int32)  (g : ZS) {K : Int32 → Prop} (h0 : ∀ v, K v → xK X (some (.int v)) g) : J Y_X8_at X 0 0 22 [none, none] [.int s0] g (f_X8_at_22 s0 g) K := by
  unfold f_X8_at_22
  exact J_retZ (show Dc Y_X8_at 22 (.ireturn) 1 23 from ⟨by decide +kernel, rfl⟩) rfl (h0 _) (by decide) (by decide)

theorem j_X8_at_21 {X : ZX}    (g : ZS) {K : Int32 → Prop} (h0 : ∀ v, K v → xK X (some (.int v)) g) : J Y_X8_at X 0 0 21 [none, none] [] g (f_X8_at_21 g) K := by
  unfold f_X8_at_21
  refine J_iconst (0 : Int32) rfl (show Dc Y_X8_at 21 (.iconst 0) 1 22 from ⟨by decide +kernel, rfl⟩) ?_
  exact j_X8_at_22 (0 : Int32) g h0

theorem j_X8_at {X : ZX} (x0 : Nat) (x1 : Int32)   (g : ZS) {K : Int32 → Prop} (h0 : ∀ v, K v → xK X (some (.int v)) g) : J Y_X8_at X 0 0 0 [some (.ref x0), some (.int x1)] [] g (f_X8_at x0 x1 g) K := by
  unfold f_X8_at
  refine J_iload_n rfl rfl (show Dc Y_X8_at 0 (.iload_n 1) 1 1 from ⟨by decide +kernel, rfl⟩) ?_
  refine J_if_lt (tg := 21) (show Dc Y_X8_at 1 (.ifCond .lt 20) 3 4 from ⟨by decide +kernel, rfl⟩) (by decide) (fun h => ?_) (fun h => ?_)
  · refine J_mask [false, false] ?_
    exact j_X8_at_21 g h0
  · refine J_iload_n rfl rfl (show Dc Y_X8_at 4 (.iload_n 1) 1 5 from ⟨by decide +kernel, rfl⟩) ?_
    refine J_aload_n rfl rfl (show Dc Y_X8_at 5 (.aload_n 0) 1 6 from ⟨by decide +kernel, rfl⟩) ?_
    refine J_getI (show Dc Y_X8_at 6 (.getfield 15) 3 9 from ⟨by decide +kernel, rfl⟩) w_f_RX8_15 rfl (fun v1 => ?_)
    refine J_icmp_ge (tg := 21) (show Dc Y_X8_at 9 (.if_icmp .ge 12) 3 12 from ⟨by decide +kernel, rfl⟩) (by decide) (fun h => ?_) (fun h => ?_)
    · refine J_mask [false, false] ?_
      exact j_X8_at_21 g h0
    · refine J_aload_n rfl rfl (show Dc Y_X8_at 12 (.aload_n 0) 1 13 from ⟨by decide +kernel, rfl⟩) ?_
      refine J_getR (show Dc Y_X8_at 13 (.getfield 9) 3 16 from ⟨by decide +kernel, rfl⟩) w_f_RX8_9 rfl (fun v2 => ?_)
      refine J_iload_n rfl rfl (show Dc Y_X8_at 16 (.iload_n 1) 1 17 from ⟨by decide +kernel, rfl⟩) ?_
      refine J_cald (show Dc Y_X8_at 17 (.caload) 1 18 from ⟨by decide +kernel, rfl⟩) (fun v3 => ?_)
      refine J_goto (tg := 22) (show Dc Y_X8_at 18 (.goto 4) 3 21 from ⟨by decide +kernel, rfl⟩) (by decide) ?_
      refine J_mask [false, false] ?_
      exact j_X8_at_22 v3 g h0

theorem c_X8_at {l : Launch} {D : ZD} {B0 : Nat} (x0 : Nat) (x1 : Int32) (g : ZS) : ∀ r, f_X8_at x0 x1 g = some r → zCt l D B0 yX8_at Y_X8_at [.ref x0, .int x1] g (some (.int r)) g :=
  zCt_ofF (vo := fun r => some (.int r)) (so := fun _ => g) (by decide +kernel) rfl (fun h => by cases h) rfl (Nat.le_of_ble_eq_true rfl) (fun X => j_X8_at x0 x1 g (fun _ h => h))

theorem j_X8_wordAt_26 {X : ZX}  (s0 : Int32)  (g : ZS) {K : Int32 → Prop} (h0 : ∀ v, K v → xK X (some (.int v)) g) : J Y_X8_wordAt X 0 0 26 [none, none, none] [.int s0] g (f_X8_wordAt_26 s0 g) K := by
  unfold f_X8_wordAt_26
  exact J_reti (show Dc Y_X8_wordAt 26 (.ireturn) 1 27 from ⟨by decide +kernel, rfl⟩) rfl (h0 _) (by decide) (by decide)

theorem j_X8_wordAt_25 {X : ZX}    (g : ZS) {K : Int32 → Prop} (h0 : ∀ v, K v → xK X (some (.int v)) g) : J Y_X8_wordAt X 0 0 25 [none, none, none] [] g (f_X8_wordAt_25 g) K := by
  unfold f_X8_wordAt_25
  refine J_iconst (-1 : Int32) rfl (show Dc Y_X8_wordAt 25 (.iconst (-1)) 1 26 from ⟨by decide +kernel, rfl⟩) ?_
  exact j_X8_wordAt_26 (-1 : Int32) g h0

theorem j_X8_wordAt {X : ZX} (x0 : Nat) (x1 : Int32)   (g : ZS) {K : Int32 → Prop} (h0 : ∀ v, K v → xK X (some (.int v)) g) : J Y_X8_wordAt X 0 0 0 [some (.ref x0), some (.int x1), none] [] g (f_X8_wordAt x0 x1 g) K := by
  unfold f_X8_wordAt
  refine J_aload_n rfl rfl (show Dc Y_X8_wordAt 0 (.aload_n 0) 1 1 from ⟨by decide +kernel, rfl⟩) ?_
  refine J_iload_n rfl rfl (show Dc Y_X8_wordAt 1 (.iload_n 1) 1 2 from ⟨by decide +kernel, rfl⟩) ?_
  refine J_callVi (fun r => r) (fun _ => g) (show Dc Y_X8_wordAt 2 (.invokevirtual 19) 3 5 from ⟨by decide +kernel, rfl⟩) w_m_RX8_19 w_in_X8_at rfl w_se_X8_at w_cw_X8_at (c_X8_at x0 x1 g) rfl rfl (by decide) (Nat.le_of_ble_eq_true rfl) (by decide) (by decide) (fun v1 => ?_)
  refine J_istore_n [some (.ref x0), some (.int x1), some (.int v1)] (show Dc Y_X8_wordAt 5 (.istore_n 2) 1 6 from ⟨by decide +kernel, rfl⟩) rfl (by decide) rfl rfl ?_
  refine J_iload_n rfl rfl (show Dc Y_X8_wordAt 6 (.iload_n 2) 1 7 from ⟨by decide +kernel, rfl⟩) ?_
  refine J_bipush (97 : Int32) rfl (show Dc Y_X8_wordAt 7 (.bipush 97) 2 9 from ⟨by decide +kernel, rfl⟩) ?_
  refine J_icmp_lt (tg := 25) (show Dc Y_X8_wordAt 9 (.if_icmp .lt 16) 3 12 from ⟨by decide +kernel, rfl⟩) (by decide) (fun h => ?_) (fun h => ?_)
  · refine J_mask [false, false, false] ?_
    exact j_X8_wordAt_25 g h0
  · refine J_iload_n rfl rfl (show Dc Y_X8_wordAt 12 (.iload_n 2) 1 13 from ⟨by decide +kernel, rfl⟩) ?_
    refine J_bipush (104 : Int32) rfl (show Dc Y_X8_wordAt 13 (.bipush 104) 2 15 from ⟨by decide +kernel, rfl⟩) ?_
    refine J_icmp_gt (tg := 25) (show Dc Y_X8_wordAt 15 (.if_icmp .gt 10) 3 18 from ⟨by decide +kernel, rfl⟩) (by decide) (fun h => ?_) (fun h => ?_)
    · refine J_mask [false, false, false] ?_
      exact j_X8_wordAt_25 g h0
    · refine J_iload_n rfl rfl (show Dc Y_X8_wordAt 18 (.iload_n 2) 1 19 from ⟨by decide +kernel, rfl⟩) ?_
      refine J_bipush (97 : Int32) rfl (show Dc Y_X8_wordAt 19 (.bipush 97) 2 21 from ⟨by decide +kernel, rfl⟩) ?_
      refine J_isub (show Dc Y_X8_wordAt 21 (.isub) 1 22 from ⟨by decide +kernel, rfl⟩) ?_
      refine J_goto (tg := 26) (show Dc Y_X8_wordAt 22 (.goto 4) 3 25 from ⟨by decide +kernel, rfl⟩) (by decide) ?_
      refine J_mask [false, false, false] ?_
      exact j_X8_wordAt_26 (v1 - (97 : Int32)) g h0

theorem c_X8_wordAt {l : Launch} {D : ZD} {B0 : Nat} (x0 : Nat) (x1 : Int32) (g : ZS) : ∀ r, f_X8_wordAt x0 x1 g = some r → zCt l D B0 yX8_wordAt Y_X8_wordAt [.ref x0, .int x1] g (some (.int r)) g :=
  zCt_ofF (vo := fun r => some (.int r)) (so := fun _ => g) (by decide +kernel) rfl (fun h => by cases h) rfl (Nat.le_of_ble_eq_true rfl) (fun X => j_X8_wordAt x0 x1 g (fun _ h => h))

theorem j_X8_badInTale_25 {X : ZX} (N : Nat) (x1 : Int32)   (g : ZS) {K : Int32 → Prop} (h0 : ∀ v, K v → xK X (some (.int v)) g) : J Y_X8_badInTale X 0 0 25 [none, some (.int x1)] [] g (f_X8_badInTale_25 N x1 g) K := by
  unfold f_X8_badInTale_25
  refine J_iload_n rfl rfl (show Dc Y_X8_badInTale 25 (.iload_n 1) 1 26 from ⟨by decide +kernel, rfl⟩) ?_
  exact J_reti (show Dc Y_X8_badInTale 26 (.ireturn) 1 27 from ⟨by decide +kernel, rfl⟩) rfl (h0 _) (by decide) (by decide)

theorem j_X8_badInTale_2 {X : ZX} (N : Nat) (x0 : Nat) (x1 : Int32)   (g : ZS) {K : ((Int32) ⊕ Int32) → Prop} (h0 : ∀ v, K (.inr v) → xK X (some (.int v)) g) (hL2 : ∀ s, K (.inl s) → zG Y_X8_badInTale X 0 0 2 [some (.ref x0), some (.int s)] [] g) : J Y_X8_badInTale X 0 0 2 [some (.ref x0), some (.int x1)] [] g (f_X8_badInTale_2 N x0 x1 g) K := by
  unfold f_X8_badInTale_2
  refine J_iload_n rfl rfl (show Dc Y_X8_badInTale 2 (.iload_n 1) 1 3 from ⟨by decide +kernel, rfl⟩) ?_
  refine J_aload_n rfl rfl (show Dc Y_X8_badInTale 3 (.aload_n 0) 1 4 from ⟨by decide +kernel, rfl⟩) ?_
  refine J_getI (show Dc Y_X8_badInTale 4 (.getfield 15) 3 7 from ⟨by decide +kernel, rfl⟩) w_f_RX8_15 rfl (fun v1 => ?_)
  refine J_icmp_ge (tg := 33) (show Dc Y_X8_badInTale 7 (.if_icmp .ge 26) 3 10 from ⟨by decide +kernel, rfl⟩) (by decide) (fun h => ?_) (fun h => ?_)
  · refine J_map (f := Sum.inr) (fun _ h => h) ?_
    refine J_iconst (-1 : Int32) rfl (show Dc Y_X8_badInTale 33 (.iconst (-1)) 1 34 from ⟨by decide +kernel, rfl⟩) ?_
    exact J_reti (show Dc Y_X8_badInTale 34 (.ireturn) 1 35 from ⟨by decide +kernel, rfl⟩) rfl (h0 _) (by decide) (by decide)
  · refine J_iload_n rfl rfl (show Dc Y_X8_badInTale 10 (.iload_n 1) 1 11 from ⟨by decide +kernel, rfl⟩) ?_
    refine J_bipush (16 : Int32) rfl (show Dc Y_X8_badInTale 11 (.bipush 16) 2 13 from ⟨by decide +kernel, rfl⟩) ?_
    refine J_icmp_ge (tg := 25) (show Dc Y_X8_badInTale 13 (.if_icmp .ge 12) 3 16 from ⟨by decide +kernel, rfl⟩) (by decide) (fun h => ?_) (fun h => ?_)
    · refine J_mask [false, true] ?_
      refine J_map (f := Sum.inr) (fun _ h => h) ?_
      exact j_X8_badInTale_25 (K := fun o => K (.inr o)) N x1 g h0
    · refine J_aload_n rfl rfl (show Dc Y_X8_badInTale 16 (.aload_n 0) 1 17 from ⟨by decide +kernel, rfl⟩) ?_
      refine J_iload_n rfl rfl (show Dc Y_X8_badInTale 17 (.iload_n 1) 1 18 from ⟨by decide +kernel, rfl⟩) ?_
      refine J_callVi (fun r => r) (fun _ => g) (show Dc Y_X8_badInTale 18 (.invokevirtual 23) 3 21 from ⟨by decide +kernel, rfl⟩) w_m_RX8_23 w_in_X8_wordAt rfl w_se_X8_wordAt w_cw_X8_wordAt (c_X8_wordAt x0 x1 g) rfl rfl (by decide) (Nat.le_of_ble_eq_true rfl) (by decide) (by decide) (fun v2 => ?_)
      refine J_iconst (-1 : Int32) rfl (show Dc Y_X8_badInTale 21 (.iconst (-1)) 1 22 from ⟨by decide +kernel, rfl⟩) ?_
      refine J_icmp_ne (tg := 27) (show Dc Y_X8_badInTale 22 (.if_icmp .ne 5) 3 25 from ⟨by decide +kernel, rfl⟩) (by decide) (fun h => ?_) (fun h => ?_)
      · refine J_iinc (1 : Int32) [some (.ref x0), some (.int (x1 + (1 : Int32)))] (show Dc Y_X8_badInTale 27 (.iinc 1 1) 3 30 from ⟨by decide +kernel, rfl⟩) rfl rfl (by decide) rfl rfl ?_
        refine J_goto (tg := 2) (show Dc Y_X8_badInTale 30 (.goto (-28)) 3 33 from ⟨by decide +kernel, rfl⟩) (by decide) ?_
        exact J_leaf (fun h => hL2 (x1 + (1 : Int32)) h)
      · refine J_mask [false, true] ?_
        refine J_map (f := Sum.inr) (fun _ h => h) ?_
        exact j_X8_badInTale_25 (K := fun o => K (.inr o)) N x1 g h0

theorem j_X8_badInTale {X : ZX} (N : Nat) (x0 : Nat)   (g : ZS) {K : Int32 → Prop} (h0 : ∀ v, K v → xK X (some (.int v)) g) : J Y_X8_badInTale X 0 0 0 [some (.ref x0), none] [] g (f_X8_badInTale N x0 g) K := by
  unfold f_X8_badInTale
  refine J_iconst (0 : Int32) rfl (show Dc Y_X8_badInTale 0 (.iconst 0) 1 1 from ⟨by decide +kernel, rfl⟩) ?_
  refine J_istore_n [some (.ref x0), some (.int (0 : Int32))] (show Dc Y_X8_badInTale 1 (.istore_n 1) 1 2 from ⟨by decide +kernel, rfl⟩) rfl (by decide) rfl rfl ?_
  exact J_loop (X := X) (K := K) (uc := fun _ => 0) (us := fun _ => 0) (lf := fun s => [some (.ref x0), some (.int s)]) (gf := fun s => g) (fun s => j_X8_badInTale_2 (K := zKl Y_X8_badInTale X 2 (fun _ => 0) (fun _ => 0) (fun s => [some (.ref x0), some (.int s)]) (fun s => g) K) N x0 s g h0 (fun s h => h)) N (0 : Int32)

theorem c_X8_badInTale {l : Launch} {D : ZD} {B0 : Nat} (N : Nat) (x0 : Nat) (g : ZS) : ∀ r, f_X8_badInTale N x0 g = some r → zCt l D B0 yX8_badInTale Y_X8_badInTale [.ref x0] g (some (.int r)) g :=
  zCt_ofF (vo := fun r => some (.int r)) (so := fun _ => g) (by decide +kernel) rfl (fun h => by cases h) rfl (Nat.le_of_ble_eq_true rfl) (fun X => j_X8_badInTale N x0 g (fun _ h => h))

theorem j_X2_furnish_35 {X : ZX} (N : Nat) (x0 : Nat) (x1 : Int32) (x2 : Nat)   (g : ZS) {K : ZS → Prop} (h0 : ∀ g, K g → xK X none g) : J Y_X2_furnish X 0 0 35 [some (.ref x0), some (.int x1), some (.ref x2), none] [] g (f_X2_furnish_35 N x0 x1 x2 g) K := by
  unfold f_X2_furnish_35
  refine J_aload_n rfl rfl (show Dc Y_X2_furnish 35 (.aload_n 0) 1 36 from ⟨by decide +kernel, rfl⟩) ?_
  refine J_getR (show Dc Y_X2_furnish 36 (.getfield 16) 3 39 from ⟨by decide +kernel, rfl⟩) w_f_RX2_16 rfl (fun v1 => ?_)
  refine J_iload_n rfl rfl (show Dc Y_X2_furnish 39 (.iload_n 1) 1 40 from ⟨by decide +kernel, rfl⟩) ?_
  refine J_aload_n rfl rfl (show Dc Y_X2_furnish 40 (.aload_n 2) 1 41 from ⟨by decide +kernel, rfl⟩) ?_
  refine J_getI (show Dc Y_X2_furnish 41 (.getfield 20) 3 44 from ⟨by decide +kernel, rfl⟩) w_f_RX2_20 rfl (fun v2 => ?_)
  refine J_iast (show Dc Y_X2_furnish 44 (.iastore) 1 45 from ⟨by decide +kernel, rfl⟩) (fun g3 => ?_)
  exact J_ret0 (show Dc Y_X2_furnish 45 (.return_) 1 46 from ⟨by decide +kernel, rfl⟩) rfl (h0 _) (by decide) (by decide)

theorem j_X2_furnish_2 {X : ZX} (N : Nat) (x0 : Nat) (x1 : Int32) (x2 : Nat) (x3 : Int32)   (g : ZS) {K : ((Int32 × ZS) ⊕ ZS) → Prop} (h0 : ∀ g, K (.inr g) → xK X none g) (hL2 : ∀ s, K (.inl s) → zG Y_X2_furnish X 0 0 2 [some (.ref x0), some (.int x1), some (.ref x2), some (.int s.1)] [] s.2) : J Y_X2_furnish X 0 0 2 [some (.ref x0), some (.int x1), some (.ref x2), some (.int x3)] [] g (f_X2_furnish_2 N x0 x1 x2 x3 g) K := by
  unfold f_X2_furnish_2
  refine J_iload_n rfl rfl (show Dc Y_X2_furnish 2 (.iload_n 3) 1 3 from ⟨by decide +kernel, rfl⟩) ?_
  refine J_aload_n rfl rfl (show Dc Y_X2_furnish 3 (.aload_n 2) 1 4 from ⟨by decide +kernel, rfl⟩) ?_
  refine J_getI (show Dc Y_X2_furnish 4 (.getfield 20) 3 7 from ⟨by decide +kernel, rfl⟩) w_f_RX2_20 rfl (fun v1 => ?_)
  refine J_icmp_ge (tg := 35) (show Dc Y_X2_furnish 7 (.if_icmp .ge 28) 3 10 from ⟨by decide +kernel, rfl⟩) (by decide) (fun h => ?_) (fun h => ?_)
  · refine J_mask [true, true, true, false] ?_
    refine J_map (f := Sum.inr) (fun _ h => h) ?_
    exact j_X2_furnish_35 (K := fun o => K (.inr o)) N x0 x1 x2 g h0
  · refine J_iload_n rfl rfl (show Dc Y_X2_furnish 10 (.iload_n 3) 1 11 from ⟨by decide +kernel, rfl⟩) ?_
    refine J_bipush (16 : Int32) rfl (show Dc Y_X2_furnish 11 (.bipush 16) 2 13 from ⟨by decide +kernel, rfl⟩) ?_
    refine J_icmp_ge (tg := 35) (show Dc Y_X2_furnish 13 (.if_icmp .ge 22) 3 16 from ⟨by decide +kernel, rfl⟩) (by decide) (fun h => ?_) (fun h => ?_)
    · refine J_mask [true, true, true, false] ?_
      refine J_map (f := Sum.inr) (fun _ h => h) ?_
      exact j_X2_furnish_35 (K := fun o => K (.inr o)) N x0 x1 x2 g h0
    · refine J_aload_n rfl rfl (show Dc Y_X2_furnish 16 (.aload_n 0) 1 17 from ⟨by decide +kernel, rfl⟩) ?_
      refine J_getR (show Dc Y_X2_furnish 17 (.getfield 11) 3 20 from ⟨by decide +kernel, rfl⟩) w_f_RX2_11 rfl (fun v2 => ?_)
      refine J_iload_n rfl rfl (show Dc Y_X2_furnish 20 (.iload_n 1) 1 21 from ⟨by decide +kernel, rfl⟩) ?_
      refine J_aald (kd := 27) (by decide) (by decide) (show Dc Y_X2_furnish 21 (.aaload) 1 22 from ⟨by decide +kernel, rfl⟩) (fun v3 => ?_)
      refine J_iload_n rfl rfl (show Dc Y_X2_furnish 22 (.iload_n 3) 1 23 from ⟨by decide +kernel, rfl⟩) ?_
      refine J_aload_n rfl rfl (show Dc Y_X2_furnish 23 (.aload_n 2) 1 24 from ⟨by decide +kernel, rfl⟩) ?_
      refine J_iload_n rfl rfl (show Dc Y_X2_furnish 24 (.iload_n 3) 1 25 from ⟨by decide +kernel, rfl⟩) ?_
      refine J_callVi (fun r => r) (fun _ => g) (show Dc Y_X2_furnish 25 (.invokevirtual 26) 3 28 from ⟨by decide +kernel, rfl⟩) w_m_RX2_26 w_in_X8_wordAt rfl w_se_X8_wordAt w_cw_X8_wordAt (c_X8_wordAt x2 x3 g) rfl rfl (by decide) (Nat.le_of_ble_eq_true rfl) (by decide) (by decide) (fun v4 => ?_)
      refine J_iast (show Dc Y_X2_furnish 28 (.iastore) 1 29 from ⟨by decide +kernel, rfl⟩) (fun g5 => ?_)
      refine J_iinc (1 : Int32) [some (.ref x0), some (.int x1), some (.ref x2), some (.int (x3 + (1 : Int32)))] (show Dc Y_X2_furnish 29 (.iinc 3 1) 3 32 from ⟨by decide +kernel, rfl⟩) rfl rfl (by decide) rfl rfl ?_
      refine J_goto (tg := 2) (show Dc Y_X2_furnish 32 (.goto (-30)) 3 35 from ⟨by decide +kernel, rfl⟩) (by decide) ?_
      exact J_leaf (fun h => hL2 (x3 + (1 : Int32), g5) h)

theorem j_X2_furnish {X : ZX} (N : Nat) (x0 : Nat) (x1 : Int32) (x2 : Nat)   (g : ZS) {K : ZS → Prop} (h0 : ∀ g, K g → xK X none g) : J Y_X2_furnish X 0 0 0 [some (.ref x0), some (.int x1), some (.ref x2), none] [] g (f_X2_furnish N x0 x1 x2 g) K := by
  unfold f_X2_furnish
  refine J_iconst (0 : Int32) rfl (show Dc Y_X2_furnish 0 (.iconst 0) 1 1 from ⟨by decide +kernel, rfl⟩) ?_
  refine J_istore_n [some (.ref x0), some (.int x1), some (.ref x2), some (.int (0 : Int32))] (show Dc Y_X2_furnish 1 (.istore_n 3) 1 2 from ⟨by decide +kernel, rfl⟩) rfl (by decide) rfl rfl ?_
  exact J_loop (X := X) (K := K) (uc := fun _ => 0) (us := fun _ => 0) (lf := fun s => [some (.ref x0), some (.int x1), some (.ref x2), some (.int s.1)]) (gf := fun s => s.2) (fun s => j_X2_furnish_2 (K := zKl Y_X2_furnish X 2 (fun _ => 0) (fun _ => 0) (fun s => [some (.ref x0), some (.int x1), some (.ref x2), some (.int s.1)]) (fun s => s.2) K) N x0 x1 x2 s.1 s.2 h0 (fun s h => h)) N ((0 : Int32), g)

theorem c_X2_furnish {l : Launch} {D : ZD} {B0 : Nat} (N : Nat) (x0 : Nat) (x1 : Int32) (x2 : Nat) (g : ZS) : ∀ r, f_X2_furnish N x0 x1 x2 g = some r → zCt l D B0 yX2_furnish Y_X2_furnish [.ref x0, .int x1, .ref x2] g none r :=
  zCt_ofF (vo := fun _ => none) (so := fun r => r) (by decide +kernel) rfl (fun h => by cases h) rfl (Nat.le_of_ble_eq_true rfl) (fun X => j_X2_furnish N x0 x1 x2 g (fun _ h => h))

theorem j_X11_readHouse {X : ZX} (N : Nat) (x0 : Nat) (x1 : Int32)   (g : ZS) {K : (Int32 × ZS) → Prop} (h0 : ∀ v g, K (v, g) → xK X (some (.int v)) g) : J Y_X11_readHouse X 0 0 0 [some (.ref x0), some (.int x1), none] [] g (f_X11_readHouse N x0 x1 g) K := by
  unfold f_X11_readHouse
  refine J_aload_n rfl rfl (show Dc Y_X11_readHouse 0 (.aload_n 0) 1 1 from ⟨by decide +kernel, rfl⟩) ?_
  refine J_getR (show Dc Y_X11_readHouse 1 (.getfield 10) 3 4 from ⟨by decide +kernel, rfl⟩) w_f_RX11_10 rfl (fun v1 => ?_)
  refine J_getI (show Dc Y_X11_readHouse 4 (.getfield 110) 3 7 from ⟨by decide +kernel, rfl⟩) w_f_RX11_110 rfl (fun v2 => ?_)
  refine J_if_ne (tg := 12) (show Dc Y_X11_readHouse 7 (.ifCond .ne 5) 3 10 from ⟨by decide +kernel, rfl⟩) (by decide) (fun h => ?_) (fun h => ?_)
  · refine J_aload_n rfl rfl (show Dc Y_X11_readHouse 12 (.aload_n 0) 1 13 from ⟨by decide +kernel, rfl⟩) ?_
    refine J_getR (show Dc Y_X11_readHouse 13 (.getfield 10) 3 16 from ⟨by decide +kernel, rfl⟩) w_f_RX11_10 rfl (fun v3 => ?_)
    refine J_callVi (fun r => r) (fun _ => g) (show Dc Y_X11_readHouse 16 (.invokevirtual 121) 3 19 from ⟨by decide +kernel, rfl⟩) w_m_RX11_121 w_in_X8_badInTale rfl w_se_X8_badInTale w_cw_X8_badInTale (c_X8_badInTale N v3 g) rfl rfl (by decide) (Nat.le_of_ble_eq_true rfl) (by decide) (by decide) (fun v4 => ?_)
    refine J_istore_n [some (.ref x0), some (.int x1), some (.int v4)] (show Dc Y_X11_readHouse 19 (.istore_n 2) 1 20 from ⟨by decide +kernel, rfl⟩) rfl (by decide) rfl rfl ?_
    refine J_iload_n rfl rfl (show Dc Y_X11_readHouse 20 (.iload_n 2) 1 21 from ⟨by decide +kernel, rfl⟩) ?_
    refine J_iconst (-1 : Int32) rfl (show Dc Y_X11_readHouse 21 (.iconst (-1)) 1 22 from ⟨by decide +kernel, rfl⟩) ?_
    refine J_icmp_eq (tg := 29) (show Dc Y_X11_readHouse 22 (.if_icmp .eq 7) 3 25 from ⟨by decide +kernel, rfl⟩) (by decide) (fun h => ?_) (fun h => ?_)
    · refine J_aload_n rfl rfl (show Dc Y_X11_readHouse 29 (.aload_n 0) 1 30 from ⟨by decide +kernel, rfl⟩) ?_
      refine J_getR (show Dc Y_X11_readHouse 30 (.getfield 26) 3 33 from ⟨by decide +kernel, rfl⟩) w_f_RX11_26 rfl (fun v5 => ?_)
      refine J_iload_n rfl rfl (show Dc Y_X11_readHouse 33 (.iload_n 1) 1 34 from ⟨by decide +kernel, rfl⟩) ?_
      refine J_aload_n rfl rfl (show Dc Y_X11_readHouse 34 (.aload_n 0) 1 35 from ⟨by decide +kernel, rfl⟩) ?_
      refine J_getR (show Dc Y_X11_readHouse 35 (.getfield 10) 3 38 from ⟨by decide +kernel, rfl⟩) w_f_RX11_10 rfl (fun v6 => ?_)
      refine J_callVv (fun r => r) (show Dc Y_X11_readHouse 38 (.invokevirtual 125) 3 41 from ⟨by decide +kernel, rfl⟩) w_m_RX11_125 w_in_X2_furnish rfl w_se_X2_furnish w_cw_X2_furnish (c_X2_furnish N v5 x1 v6 g) rfl rfl (by decide) (Nat.le_of_ble_eq_true rfl) (by decide) (by decide) (fun g7 => ?_)
      refine J_aload_n rfl rfl (show Dc Y_X11_readHouse 41 (.aload_n 0) 1 42 from ⟨by decide +kernel, rfl⟩) ?_
      refine J_getR (show Dc Y_X11_readHouse 42 (.getfield 10) 3 45 from ⟨by decide +kernel, rfl⟩) w_f_RX11_10 rfl (fun v8 => ?_)
      refine J_getI (show Dc Y_X11_readHouse 45 (.getfield 110) 3 48 from ⟨by decide +kernel, rfl⟩) w_f_RX11_110 rfl (fun v9 => ?_)
      exact J_reti (show Dc Y_X11_readHouse 48 (.ireturn) 1 49 from ⟨by decide +kernel, rfl⟩) rfl (h0 _ _) (by decide) (by decide)
    · refine J_iconst (-1 : Int32) rfl (show Dc Y_X11_readHouse 25 (.iconst (-1)) 1 26 from ⟨by decide +kernel, rfl⟩) ?_
      refine J_iload_n rfl rfl (show Dc Y_X11_readHouse 26 (.iload_n 2) 1 27 from ⟨by decide +kernel, rfl⟩) ?_
      refine J_isub (show Dc Y_X11_readHouse 27 (.isub) 1 28 from ⟨by decide +kernel, rfl⟩) ?_
      exact J_reti (show Dc Y_X11_readHouse 28 (.ireturn) 1 29 from ⟨by decide +kernel, rfl⟩) rfl (h0 _ _) (by decide) (by decide)
  · refine J_iconst (-1 : Int32) rfl (show Dc Y_X11_readHouse 10 (.iconst (-1)) 1 11 from ⟨by decide +kernel, rfl⟩) ?_
    exact J_reti (show Dc Y_X11_readHouse 11 (.ireturn) 1 12 from ⟨by decide +kernel, rfl⟩) rfl (h0 _ _) (by decide) (by decide)

theorem c_X11_readHouse {l : Launch} {D : ZD} {B0 : Nat} (N : Nat) (x0 : Nat) (x1 : Int32) (g : ZS) : ∀ r, f_X11_readHouse N x0 x1 g = some r → zCt l D B0 yX11_readHouse Y_X11_readHouse [.ref x0, .int x1] g (some (.int r.1)) r.2 :=
  zCt_ofF (vo := fun r => some (.int r.1)) (so := fun r => r.2) (by decide +kernel) rfl (fun h => by cases h) rfl (Nat.le_of_ble_eq_true rfl) (fun X => j_X11_readHouse N x0 x1 g (fun _ _ h => h))

theorem j_X11_house_17 {X : ZX} (N : Nat) (x0 : Nat) (s0 : Int32)  (g : ZS) {K : (Int32 × ZS) → Prop} (h0 : ∀ v g, K (v, g) → xK X (some (.int v)) g) : J Y_X11_house X 0 0 17 [some (.ref x0), none, none] [.int s0] g (f_X11_house_17 N x0 s0 g) K := by
  unfold f_X11_house_17
  refine J_istore_n [some (.ref x0), none, some (.int s0)] (show Dc Y_X11_house 17 (.istore_n 2) 1 18 from ⟨by decide +kernel, rfl⟩) rfl (by decide) rfl rfl ?_
  refine J_aload_n rfl rfl (show Dc Y_X11_house 18 (.aload_n 0) 1 19 from ⟨by decide +kernel, rfl⟩) ?_
  refine J_getR (show Dc Y_X11_house 19 (.getfield 10) 3 22 from ⟨by decide +kernel, rfl⟩) w_f_RX11_10 rfl (fun v1 => ?_)
  refine J_iconst (0 : Int32) rfl (show Dc Y_X11_house 22 (.iconst 0) 1 23 from ⟨by decide +kernel, rfl⟩) ?_
  refine J_putI (show Dc Y_X11_house 23 (.putfield 110) 3 26 from ⟨by decide +kernel, rfl⟩) w_f_RX11_110 rfl rfl (fun g2 => ?_) (fun h => by cases h)
  refine J_iload_n rfl rfl (show Dc Y_X11_house 26 (.iload_n 2) 1 27 from ⟨by decide +kernel, rfl⟩) ?_
  exact J_reti (show Dc Y_X11_house 27 (.ireturn) 1 28 from ⟨by decide +kernel, rfl⟩) rfl (h0 _ _) (by decide) (by decide)

theorem j_X11_house {X : ZX} (N : Nat) (x0 : Nat) (x1 : Int32)   (g : ZS) {K : (Int32 × ZS) → Prop} (h0 : ∀ v g, K (v, g) → xK X (some (.int v)) g) : J Y_X11_house X 0 0 0 [some (.ref x0), some (.int x1), none] [] g (f_X11_house N x0 x1 g) K := by
  unfold f_X11_house
  refine J_iload_n rfl rfl (show Dc Y_X11_house 0 (.iload_n 1) 1 1 from ⟨by decide +kernel, rfl⟩) ?_
  refine J_callSi (fun r => r) (fun _ => g) (show Dc Y_X11_house 1 (.invokestatic 114) 3 4 from ⟨by decide +kernel, rfl⟩) w_m_RX11_114 w_st_X11_isHouse w_cw_X11_isHouse (c_X11_isHouse x1 g) rfl rfl (by decide) (Nat.le_of_ble_eq_true rfl) (by decide) (by decide) (fun v1 => ?_)
  refine J_if_eq (tg := 15) (show Dc Y_X11_house 4 (.ifCond .eq 11) 3 7 from ⟨by decide +kernel, rfl⟩) (by decide) (fun h => ?_) (fun h => ?_)
  · refine J_bipush (-100 : Int32) rfl (show Dc Y_X11_house 15 (.bipush (-100)) 2 17 from ⟨by decide +kernel, rfl⟩) ?_
    refine J_mask [true, false, false] ?_
    exact j_X11_house_17 N x0 (-100 : Int32) g h0
  · refine J_aload_n rfl rfl (show Dc Y_X11_house 7 (.aload_n 0) 1 8 from ⟨by decide +kernel, rfl⟩) ?_
    refine J_iload_n rfl rfl (show Dc Y_X11_house 8 (.iload_n 1) 1 9 from ⟨by decide +kernel, rfl⟩) ?_
    refine J_callVi (fun r => r.1) (fun r => r.2) (show Dc Y_X11_house 9 (.invokevirtual 117) 3 12 from ⟨by decide +kernel, rfl⟩) w_m_RX11_117 w_in_X11_readHouse rfl w_se_X11_readHouse w_cw_X11_readHouse (c_X11_readHouse N x0 x1 g) rfl rfl (by decide) (Nat.le_of_ble_eq_true rfl) (by decide) (by decide) (fun r2 => ?_)
    refine J_goto (tg := 17) (show Dc Y_X11_house 12 (.goto 5) 3 15 from ⟨by decide +kernel, rfl⟩) (by decide) ?_
    refine J_mask [true, false, false] ?_
    exact j_X11_house_17 N x0 r2.1 r2.2 h0

theorem c_X11_house {l : Launch} {D : ZD} {B0 : Nat} (N : Nat) (x0 : Nat) (x1 : Int32) (g : ZS) : ∀ r, f_X11_house N x0 x1 g = some r → zCt l D B0 yX11_house Y_X11_house [.ref x0, .int x1] g (some (.int r.1)) r.2 :=
  zCt_ofF (vo := fun r => some (.int r.1)) (so := fun r => r.2) (by decide +kernel) rfl (fun h => by cases h) rfl (Nat.le_of_ble_eq_true rfl) (fun X => j_X11_house N x0 x1 g (fun _ _ h => h))

theorem j_X12_isHouse {X : ZX} (x0 : Int32)   (g : ZS) {K : Int32 → Prop} (h0 : ∀ v, K v → xK X (some (.int v)) g) : J Y_X12_isHouse X 0 0 0 [some (.int x0)] [] g (f_X12_isHouse x0) K := by
  unfold f_X12_isHouse
  refine J_iload_n rfl rfl (show Dc Y_X12_isHouse 0 (.iload_n 0) 1 1 from ⟨by decide +kernel, rfl⟩) ?_
  refine J_iconst (0 : Int32) rfl (show Dc Y_X12_isHouse 1 (.iconst 0) 1 2 from ⟨by decide +kernel, rfl⟩) ?_
  refine J_iconst (3 : Int32) rfl (show Dc Y_X12_isHouse 2 (.iconst 3) 1 3 from ⟨by decide +kernel, rfl⟩) ?_
  refine J_callSi (fun r => r) (fun _ => g) (show Dc Y_X12_isHouse 3 (.invokestatic 119) 3 6 from ⟨by decide +kernel, rfl⟩) w_m_RX12_119 w_st_X12_in w_cw_X12_in (c_X12_in x0 (0 : Int32) (3 : Int32) g) rfl rfl (by decide) (Nat.le_of_ble_eq_true rfl) (by decide) (by decide) (fun v1 => ?_)
  exact J_retZ (show Dc Y_X12_isHouse 6 (.ireturn) 1 7 from ⟨by decide +kernel, rfl⟩) rfl (h0 _) (by decide) (by decide)

theorem c_X12_isHouse {l : Launch} {D : ZD} {B0 : Nat} (x0 : Int32) (g : ZS) : ∀ r, f_X12_isHouse x0 = some r → zCt l D B0 yX12_isHouse Y_X12_isHouse [.int x0] g (some (.int r)) g :=
  zCt_ofF (vo := fun r => some (.int r)) (so := fun _ => g) (by decide +kernel) rfl (fun h => by cases h) rfl (Nat.le_of_ble_eq_true rfl) (fun X => j_X12_isHouse x0 g (fun _ h => h))

theorem j_X12_begin {X : ZX} (x0 : Nat) (x1 : Nat) (x2 : Int32) (x3 : Int32)   (g : ZS) {K : ZS → Prop} (h0 : ∀ g, K g → xK X none g) : J Y_X12_begin X 0 0 0 [some (.ref x0), some (.ref x1), some (.int x2), some (.int x3)] [] g (f_X12_begin x0 x1 x2 x3 g) K := by
  unfold f_X12_begin
  refine J_aload_n rfl rfl (show Dc Y_X12_begin 0 (.aload_n 0) 1 1 from ⟨by decide +kernel, rfl⟩) ?_
  refine J_aload_n rfl rfl (show Dc Y_X12_begin 1 (.aload_n 1) 1 2 from ⟨by decide +kernel, rfl⟩) ?_
  refine J_putR (show Dc Y_X12_begin 2 (.putfield 126) 3 5 from ⟨by decide +kernel, rfl⟩) w_f_RX12_126 rfl (Or.inr rfl) (fun g1 => ?_) (fun h => by cases h)
  refine J_aload_n rfl rfl (show Dc Y_X12_begin 5 (.aload_n 0) 1 6 from ⟨by decide +kernel, rfl⟩) ?_
  refine J_iload_n rfl rfl (show Dc Y_X12_begin 6 (.iload_n 2) 1 7 from ⟨by decide +kernel, rfl⟩) ?_
  refine J_putI (show Dc Y_X12_begin 7 (.putfield 129) 3 10 from ⟨by decide +kernel, rfl⟩) w_f_RX12_129 rfl rfl (fun g2 => ?_) (fun h => by cases h)
  refine J_aload_n rfl rfl (show Dc Y_X12_begin 10 (.aload_n 0) 1 11 from ⟨by decide +kernel, rfl⟩) ?_
  refine J_iload_n rfl rfl (show Dc Y_X12_begin 11 (.iload_n 3) 1 12 from ⟨by decide +kernel, rfl⟩) ?_
  refine J_putI (show Dc Y_X12_begin 12 (.putfield 132) 3 15 from ⟨by decide +kernel, rfl⟩) w_f_RX12_132 rfl rfl (fun g3 => ?_) (fun h => by cases h)
  refine J_aload_n rfl rfl (show Dc Y_X12_begin 15 (.aload_n 0) 1 16 from ⟨by decide +kernel, rfl⟩) ?_
  refine J_iconst (0 : Int32) rfl (show Dc Y_X12_begin 16 (.iconst 0) 1 17 from ⟨by decide +kernel, rfl⟩) ?_
  refine J_putI (show Dc Y_X12_begin 17 (.putfield 135) 3 20 from ⟨by decide +kernel, rfl⟩) w_f_RX12_135 rfl rfl (fun g4 => ?_) (fun h => by cases h)
  refine J_aload_n rfl rfl (show Dc Y_X12_begin 20 (.aload_n 0) 1 21 from ⟨by decide +kernel, rfl⟩) ?_
  refine J_iconst (-1 : Int32) rfl (show Dc Y_X12_begin 21 (.iconst (-1)) 1 22 from ⟨by decide +kernel, rfl⟩) ?_
  refine J_putI (show Dc Y_X12_begin 22 (.putfield 138) 3 25 from ⟨by decide +kernel, rfl⟩) w_f_RX12_138 rfl rfl (fun g5 => ?_) (fun h => by cases h)
  exact J_ret0 (show Dc Y_X12_begin 25 (.return_) 1 26 from ⟨by decide +kernel, rfl⟩) rfl (h0 _) (by decide) (by decide)

theorem c_X12_begin {l : Launch} {D : ZD} {B0 : Nat} (x0 : Nat) (x1 : Nat) (x2 : Int32) (x3 : Int32) (g : ZS) : ∀ r, f_X12_begin x0 x1 x2 x3 g = some r → zCt l D B0 yX12_begin Y_X12_begin [.ref x0, .ref x1, .int x2, .int x3] g none r :=
  zCt_ofF (vo := fun _ => none) (so := fun r => r) (by decide +kernel) rfl (fun h => by cases h) rfl (Nat.le_of_ble_eq_true rfl) (fun X => j_X12_begin x0 x1 x2 x3 g (fun _ h => h))

theorem j_X12_beginText {X : ZX} (x0 : Nat) (x1 : Int32)   (g : ZS) {K : ZS → Prop} (h0 : ∀ g, K g → xK X none g) : J Y_X12_beginText X 0 0 0 [some (.ref x0), some (.int x1)] [] g (f_X12_beginText x0 x1 g) K := by
  unfold f_X12_beginText
  refine J_aload_n rfl rfl (show Dc Y_X12_beginText 0 (.aload_n 0) 1 1 from ⟨by decide +kernel, rfl⟩) ?_
  refine J_aload_n rfl rfl (show Dc Y_X12_beginText 1 (.aload_n 0) 1 2 from ⟨by decide +kernel, rfl⟩) ?_
  refine J_getR (show Dc Y_X12_beginText 2 (.getfield 25) 3 5 from ⟨by decide +kernel, rfl⟩) w_f_RX12_25 rfl (fun v1 => ?_)
  refine J_aload_n rfl rfl (show Dc Y_X12_beginText 5 (.aload_n 0) 1 6 from ⟨by decide +kernel, rfl⟩) ?_
  refine J_getI (show Dc Y_X12_beginText 6 (.getfield 123) 3 9 from ⟨by decide +kernel, rfl⟩) w_f_RX12_123 rfl (fun v2 => ?_)
  refine J_iload_n rfl rfl (show Dc Y_X12_beginText 9 (.iload_n 1) 1 10 from ⟨by decide +kernel, rfl⟩) ?_
  refine J_callVv (fun r => r) (show Dc Y_X12_beginText 10 (.invokevirtual 141) 3 13 from ⟨by decide +kernel, rfl⟩) w_m_RX12_141 w_in_X12_begin rfl w_se_X12_begin w_cw_X12_begin (c_X12_begin x0 v1 v2 x1 g) rfl rfl (by decide) (Nat.le_of_ble_eq_true rfl) (by decide) (by decide) (fun g3 => ?_)
  refine J_aload_n rfl rfl (show Dc Y_X12_beginText 13 (.aload_n 0) 1 14 from ⟨by decide +kernel, rfl⟩) ?_
  refine J_iconst (0 : Int32) rfl (show Dc Y_X12_beginText 14 (.iconst 0) 1 15 from ⟨by decide +kernel, rfl⟩) ?_
  refine J_putI (show Dc Y_X12_beginText 15 (.putfield 123) 3 18 from ⟨by decide +kernel, rfl⟩) w_f_RX12_123 rfl rfl (fun g4 => ?_) (fun h => by cases h)
  exact J_ret0 (show Dc Y_X12_beginText 18 (.return_) 1 19 from ⟨by decide +kernel, rfl⟩) rfl (h0 _) (by decide) (by decide)

theorem c_X12_beginText {l : Launch} {D : ZD} {B0 : Nat} (x0 : Nat) (x1 : Int32) (g : ZS) : ∀ r, f_X12_beginText x0 x1 g = some r → zCt l D B0 yX12_beginText Y_X12_beginText [.ref x0, .int x1] g none r :=
  zCt_ofF (vo := fun _ => none) (so := fun r => r) (by decide +kernel) rfl (fun h => by cases h) rfl (Nat.le_of_ble_eq_true rfl) (fun X => j_X12_beginText x0 x1 g (fun _ h => h))

theorem j_X12_fine_13 {X : ZX}  (s0 : Int32)  (g : ZS) {K : Int32 → Prop} (h0 : ∀ v, K v → xK X (some (.int v)) g) : J Y_X12_fine X 0 0 13 [none] [.int s0] g (f_X12_fine_13 s0 g) K := by
  unfold f_X12_fine_13
  exact J_retZ (show Dc Y_X12_fine 13 (.ireturn) 1 14 from ⟨by decide +kernel, rfl⟩) rfl (h0 _) (by decide) (by decide)

theorem j_X12_fine {X : ZX} (x0 : Nat)   (g : ZS) {K : Int32 → Prop} (h0 : ∀ v, K v → xK X (some (.int v)) g) : J Y_X12_fine X 0 0 0 [some (.ref x0)] [] g (f_X12_fine x0 g) K := by
  unfold f_X12_fine
  refine J_aload_n rfl rfl (show Dc Y_X12_fine 0 (.aload_n 0) 1 1 from ⟨by decide +kernel, rfl⟩) ?_
  refine J_getI (show Dc Y_X12_fine 1 (.getfield 138) 3 4 from ⟨by decide +kernel, rfl⟩) w_f_RX12_138 rfl (fun v1 => ?_)
  refine J_iconst (-1 : Int32) rfl (show Dc Y_X12_fine 4 (.iconst (-1)) 1 5 from ⟨by decide +kernel, rfl⟩) ?_
  refine J_icmp_ne (tg := 12) (show Dc Y_X12_fine 5 (.if_icmp .ne 7) 3 8 from ⟨by decide +kernel, rfl⟩) (by decide) (fun h => ?_) (fun h => ?_)
  · refine J_iconst (0 : Int32) rfl (show Dc Y_X12_fine 12 (.iconst 0) 1 13 from ⟨by decide +kernel, rfl⟩) ?_
    refine J_mask [false] ?_
    exact j_X12_fine_13 (0 : Int32) g h0
  · refine J_iconst (1 : Int32) rfl (show Dc Y_X12_fine 8 (.iconst 1) 1 9 from ⟨by decide +kernel, rfl⟩) ?_
    refine J_goto (tg := 13) (show Dc Y_X12_fine 9 (.goto 4) 3 12 from ⟨by decide +kernel, rfl⟩) (by decide) ?_
    refine J_mask [false] ?_
    exact j_X12_fine_13 (1 : Int32) g h0

theorem c_X12_fine {l : Launch} {D : ZD} {B0 : Nat} (x0 : Nat) (g : ZS) : ∀ r, f_X12_fine x0 g = some r → zCt l D B0 yX12_fine Y_X12_fine [.ref x0] g (some (.int r)) g :=
  zCt_ofF (vo := fun r => some (.int r)) (so := fun _ => g) (by decide +kernel) rfl (fun h => by cases h) rfl (Nat.le_of_ble_eq_true rfl) (fun X => j_X12_fine x0 g (fun _ h => h))

theorem j_X12_here_39 {X : ZX}  (s0 : Int32)  (g : ZS) {K : Int32 → Prop} (h0 : ∀ v, K v → xK X (some (.int v)) g) : J Y_X12_here X 0 0 39 [none] [.int s0] g (f_X12_here_39 s0 g) K := by
  unfold f_X12_here_39
  exact J_reti (show Dc Y_X12_here 39 (.ireturn) 1 40 from ⟨by decide +kernel, rfl⟩) rfl (h0 _) (by decide) (by decide)

theorem j_X12_here_38 {X : ZX}    (g : ZS) {K : Int32 → Prop} (h0 : ∀ v, K v → xK X (some (.int v)) g) : J Y_X12_here X 0 0 38 [none] [] g (f_X12_here_38 g) K := by
  unfold f_X12_here_38
  refine J_iconst (-1 : Int32) rfl (show Dc Y_X12_here 38 (.iconst (-1)) 1 39 from ⟨by decide +kernel, rfl⟩) ?_
  exact j_X12_here_39 (-1 : Int32) g h0

theorem j_X12_here {X : ZX} (x0 : Nat)   (g : ZS) {K : Int32 → Prop} (h0 : ∀ v, K v → xK X (some (.int v)) g) : J Y_X12_here X 0 0 0 [some (.ref x0)] [] g (f_X12_here x0 g) K := by
  unfold f_X12_here
  refine J_aload_n rfl rfl (show Dc Y_X12_here 0 (.aload_n 0) 1 1 from ⟨by decide +kernel, rfl⟩) ?_
  refine J_getI (show Dc Y_X12_here 1 (.getfield 135) 3 4 from ⟨by decide +kernel, rfl⟩) w_f_RX12_135 rfl (fun v1 => ?_)
  refine J_aload_n rfl rfl (show Dc Y_X12_here 4 (.aload_n 0) 1 5 from ⟨by decide +kernel, rfl⟩) ?_
  refine J_getI (show Dc Y_X12_here 5 (.getfield 129) 3 8 from ⟨by decide +kernel, rfl⟩) w_f_RX12_129 rfl (fun v2 => ?_)
  refine J_icmp_ge (tg := 38) (show Dc Y_X12_here 8 (.if_icmp .ge 30) 3 11 from ⟨by decide +kernel, rfl⟩) (by decide) (fun h => ?_) (fun h => ?_)
  · refine J_mask [false] ?_
    exact j_X12_here_38 g h0
  · refine J_aload_n rfl rfl (show Dc Y_X12_here 11 (.aload_n 0) 1 12 from ⟨by decide +kernel, rfl⟩) ?_
    refine J_getI (show Dc Y_X12_here 12 (.getfield 135) 3 15 from ⟨by decide +kernel, rfl⟩) w_f_RX12_135 rfl (fun v3 => ?_)
    refine J_aload_n rfl rfl (show Dc Y_X12_here 15 (.aload_n 0) 1 16 from ⟨by decide +kernel, rfl⟩) ?_
    refine J_getI (show Dc Y_X12_here 16 (.getfield 132) 3 19 from ⟨by decide +kernel, rfl⟩) w_f_RX12_132 rfl (fun v4 => ?_)
    refine J_icmp_ge (tg := 38) (show Dc Y_X12_here 19 (.if_icmp .ge 19) 3 22 from ⟨by decide +kernel, rfl⟩) (by decide) (fun h => ?_) (fun h => ?_)
    · refine J_mask [false] ?_
      exact j_X12_here_38 g h0
    · refine J_aload_n rfl rfl (show Dc Y_X12_here 22 (.aload_n 0) 1 23 from ⟨by decide +kernel, rfl⟩) ?_
      refine J_getR (show Dc Y_X12_here 23 (.getfield 126) 3 26 from ⟨by decide +kernel, rfl⟩) w_f_RX12_126 rfl (fun v5 => ?_)
      refine J_aload_n rfl rfl (show Dc Y_X12_here 26 (.aload_n 0) 1 27 from ⟨by decide +kernel, rfl⟩) ?_
      refine J_getI (show Dc Y_X12_here 27 (.getfield 135) 3 30 from ⟨by decide +kernel, rfl⟩) w_f_RX12_135 rfl (fun v6 => ?_)
      refine J_bald (show Dc Y_X12_here 30 (.baload) 1 31 from ⟨by decide +kernel, rfl⟩) (fun v7 => ?_)
      refine J_sipush (255 : Int32) rfl (show Dc Y_X12_here 31 (.sipush 255) 3 34 from ⟨by decide +kernel, rfl⟩) ?_
      refine J_iand (show Dc Y_X12_here 34 (.iand) 1 35 from ⟨by decide +kernel, rfl⟩) ?_
      refine J_goto (tg := 39) (show Dc Y_X12_here 35 (.goto 4) 3 38 from ⟨by decide +kernel, rfl⟩) (by decide) ?_
      refine J_mask [false] ?_
      exact j_X12_here_39 (v7 &&& (255 : Int32)) g h0

theorem c_X12_here {l : Launch} {D : ZD} {B0 : Nat} (x0 : Nat) (g : ZS) : ∀ r, f_X12_here x0 g = some r → zCt l D B0 yX12_here Y_X12_here [.ref x0] g (some (.int r)) g :=
  zCt_ofF (vo := fun r => some (.int r)) (so := fun _ => g) (by decide +kernel) rfl (fun h => by cases h) rfl (Nat.le_of_ble_eq_true rfl) (fun X => j_X12_here x0 g (fun _ h => h))

theorem j_X12_fault_12 {X : ZX}    (g : ZS) {K : ZS → Prop} (h0 : ∀ g, K g → xK X none g) : J Y_X12_fault X 0 0 12 [none, none] [] g (f_X12_fault_12 g) K := by
  unfold f_X12_fault_12
  exact J_ret0 (show Dc Y_X12_fault 12 (.return_) 1 13 from ⟨by decide +kernel, rfl⟩) rfl (h0 _) (by decide) (by decide)

theorem j_X12_fault {X : ZX} (x0 : Nat) (x1 : Int32)   (g : ZS) {K : ZS → Prop} (h0 : ∀ g, K g → xK X none g) : J Y_X12_fault X 0 0 0 [some (.ref x0), some (.int x1)] [] g (f_X12_fault x0 x1 g) K := by
  unfold f_X12_fault
  refine J_aload_n rfl rfl (show Dc Y_X12_fault 0 (.aload_n 0) 1 1 from ⟨by decide +kernel, rfl⟩) ?_
  refine J_callVi (fun r => r) (fun _ => g) (show Dc Y_X12_fault 1 (.invokevirtual 145) 3 4 from ⟨by decide +kernel, rfl⟩) w_m_RX12_145 w_in_X12_fine rfl w_se_X12_fine w_cw_X12_fine (c_X12_fine x0 g) rfl rfl (by decide) (Nat.le_of_ble_eq_true rfl) (by decide) (by decide) (fun v1 => ?_)
  refine J_if_eq (tg := 12) (show Dc Y_X12_fault 4 (.ifCond .eq 8) 3 7 from ⟨by decide +kernel, rfl⟩) (by decide) (fun h => ?_) (fun h => ?_)
  · refine J_mask [false, false] ?_
    exact j_X12_fault_12 g h0
  · refine J_aload_n rfl rfl (show Dc Y_X12_fault 7 (.aload_n 0) 1 8 from ⟨by decide +kernel, rfl⟩) ?_
    refine J_iload_n rfl rfl (show Dc Y_X12_fault 8 (.iload_n 1) 1 9 from ⟨by decide +kernel, rfl⟩) ?_
    refine J_putI (show Dc Y_X12_fault 9 (.putfield 138) 3 12 from ⟨by decide +kernel, rfl⟩) w_f_RX12_138 rfl rfl (fun g2 => ?_) (fun h => by cases h)
    refine J_mask [false, false] ?_
    exact j_X12_fault_12 g2 h0

theorem c_X12_fault {l : Launch} {D : ZD} {B0 : Nat} (x0 : Nat) (x1 : Int32) (g : ZS) : ∀ r, f_X12_fault x0 x1 g = some r → zCt l D B0 yX12_fault Y_X12_fault [.ref x0, .int x1] g none r :=
  zCt_ofF (vo := fun _ => none) (so := fun r => r) (by decide +kernel) rfl (fun h => by cases h) rfl (Nat.le_of_ble_eq_true rfl) (fun X => j_X12_fault x0 x1 g (fun _ h => h))

theorem j_X12_oneOf {X : ZX} (x0 : Nat) (x1 : Int32) (x2 : Int32)   (g : ZS) {K : (Int32 × ZS) → Prop} (h0 : ∀ v g, K (v, g) → xK X (some (.int v)) g) : J Y_X12_oneOf X 0 0 0 [some (.ref x0), some (.int x1), some (.int x2)] [] g (f_X12_oneOf x0 x1 x2 g) K := by
  unfold f_X12_oneOf
  refine J_aload_n rfl rfl (show Dc Y_X12_oneOf 0 (.aload_n 0) 1 1 from ⟨by decide +kernel, rfl⟩) ?_
  refine J_callVi (fun r => r) (fun _ => g) (show Dc Y_X12_oneOf 1 (.invokevirtual 145) 3 4 from ⟨by decide +kernel, rfl⟩) w_m_RX12_145 w_in_X12_fine rfl w_se_X12_fine w_cw_X12_fine (c_X12_fine x0 g) rfl rfl (by decide) (Nat.le_of_ble_eq_true rfl) (by decide) (by decide) (fun v1 => ?_)
  refine J_if_ne (tg := 9) (show Dc Y_X12_oneOf 4 (.ifCond .ne 5) 3 7 from ⟨by decide +kernel, rfl⟩) (by decide) (fun h => ?_) (fun h => ?_)
  · refine J_aload_n rfl rfl (show Dc Y_X12_oneOf 9 (.aload_n 0) 1 10 from ⟨by decide +kernel, rfl⟩) ?_
    refine J_callVi (fun r => r) (fun _ => g) (show Dc Y_X12_oneOf 10 (.invokevirtual 149) 3 13 from ⟨by decide +kernel, rfl⟩) w_m_RX12_149 w_in_X12_here rfl w_se_X12_here w_cw_X12_here (c_X12_here x0 g) rfl rfl (by decide) (Nat.le_of_ble_eq_true rfl) (by decide) (by decide) (fun v2 => ?_)
    refine J_iload_n rfl rfl (show Dc Y_X12_oneOf 13 (.iload_n 1) 1 14 from ⟨by decide +kernel, rfl⟩) ?_
    refine J_iload_n rfl rfl (show Dc Y_X12_oneOf 14 (.iload_n 1) 1 15 from ⟨by decide +kernel, rfl⟩) ?_
    refine J_iload_n rfl rfl (show Dc Y_X12_oneOf 15 (.iload_n 2) 1 16 from ⟨by decide +kernel, rfl⟩) ?_
    refine J_iadd (show Dc Y_X12_oneOf 16 (.iadd) 1 17 from ⟨by decide +kernel, rfl⟩) ?_
    refine J_iconst (1 : Int32) rfl (show Dc Y_X12_oneOf 17 (.iconst 1) 1 18 from ⟨by decide +kernel, rfl⟩) ?_
    refine J_isub (show Dc Y_X12_oneOf 18 (.isub) 1 19 from ⟨by decide +kernel, rfl⟩) ?_
    refine J_callSi (fun r => r) (fun _ => g) (show Dc Y_X12_oneOf 19 (.invokestatic 119) 3 22 from ⟨by decide +kernel, rfl⟩) w_m_RX12_119 w_st_X12_in w_cw_X12_in (c_X12_in v2 x1 ((x1 + x2) - (1 : Int32)) g) rfl rfl (by decide) (Nat.le_of_ble_eq_true rfl) (by decide) (by decide) (fun v3 => ?_)
    refine J_if_ne (tg := 35) (show Dc Y_X12_oneOf 22 (.ifCond .ne 13) 3 25 from ⟨by decide +kernel, rfl⟩) (by decide) (fun h => ?_) (fun h => ?_)
    · refine J_aload_n rfl rfl (show Dc Y_X12_oneOf 35 (.aload_n 0) 1 36 from ⟨by decide +kernel, rfl⟩) ?_
      refine J_dup rfl (show Dc Y_X12_oneOf 36 (.dup) 1 37 from ⟨by decide +kernel, rfl⟩) ?_
      refine J_getI (show Dc Y_X12_oneOf 37 (.getfield 135) 3 40 from ⟨by decide +kernel, rfl⟩) w_f_RX12_135 rfl (fun v4 => ?_)
      refine J_iconst (1 : Int32) rfl (show Dc Y_X12_oneOf 40 (.iconst 1) 1 41 from ⟨by decide +kernel, rfl⟩) ?_
      refine J_iadd (show Dc Y_X12_oneOf 41 (.iadd) 1 42 from ⟨by decide +kernel, rfl⟩) ?_
      refine J_putI (show Dc Y_X12_oneOf 42 (.putfield 135) 3 45 from ⟨by decide +kernel, rfl⟩) w_f_RX12_135 rfl rfl (fun g5 => ?_) (fun h => by cases h)
      refine J_aload_n rfl rfl (show Dc Y_X12_oneOf 45 (.aload_n 0) 1 46 from ⟨by decide +kernel, rfl⟩) ?_
      refine J_getR (show Dc Y_X12_oneOf 46 (.getfield 126) 3 49 from ⟨by decide +kernel, rfl⟩) w_f_RX12_126 rfl (fun v6 => ?_)
      refine J_aload_n rfl rfl (show Dc Y_X12_oneOf 49 (.aload_n 0) 1 50 from ⟨by decide +kernel, rfl⟩) ?_
      refine J_getI (show Dc Y_X12_oneOf 50 (.getfield 135) 3 53 from ⟨by decide +kernel, rfl⟩) w_f_RX12_135 rfl (fun v7 => ?_)
      refine J_iconst (1 : Int32) rfl (show Dc Y_X12_oneOf 53 (.iconst 1) 1 54 from ⟨by decide +kernel, rfl⟩) ?_
      refine J_isub (show Dc Y_X12_oneOf 54 (.isub) 1 55 from ⟨by decide +kernel, rfl⟩) ?_
      refine J_bald (show Dc Y_X12_oneOf 55 (.baload) 1 56 from ⟨by decide +kernel, rfl⟩) (fun v8 => ?_)
      refine J_iload_n rfl rfl (show Dc Y_X12_oneOf 56 (.iload_n 1) 1 57 from ⟨by decide +kernel, rfl⟩) ?_
      refine J_isub (show Dc Y_X12_oneOf 57 (.isub) 1 58 from ⟨by decide +kernel, rfl⟩) ?_
      exact J_reti (show Dc Y_X12_oneOf 58 (.ireturn) 1 59 from ⟨by decide +kernel, rfl⟩) rfl (h0 _ _) (by decide) (by decide)
    · refine J_aload_n rfl rfl (show Dc Y_X12_oneOf 25 (.aload_n 0) 1 26 from ⟨by decide +kernel, rfl⟩) ?_
      refine J_aload_n rfl rfl (show Dc Y_X12_oneOf 26 (.aload_n 0) 1 27 from ⟨by decide +kernel, rfl⟩) ?_
      refine J_getI (show Dc Y_X12_oneOf 27 (.getfield 135) 3 30 from ⟨by decide +kernel, rfl⟩) w_f_RX12_135 rfl (fun v9 => ?_)
      refine J_callVv (fun r => r) (show Dc Y_X12_oneOf 30 (.invokevirtual 157) 3 33 from ⟨by decide +kernel, rfl⟩) w_m_RX12_157 w_in_X12_fault rfl w_se_X12_fault w_cw_X12_fault (c_X12_fault x0 v9 g) rfl rfl (by decide) (Nat.le_of_ble_eq_true rfl) (by decide) (by decide) (fun g10 => ?_)
      refine J_iconst (0 : Int32) rfl (show Dc Y_X12_oneOf 33 (.iconst 0) 1 34 from ⟨by decide +kernel, rfl⟩) ?_
      exact J_reti (show Dc Y_X12_oneOf 34 (.ireturn) 1 35 from ⟨by decide +kernel, rfl⟩) rfl (h0 _ _) (by decide) (by decide)
  · refine J_iconst (0 : Int32) rfl (show Dc Y_X12_oneOf 7 (.iconst 0) 1 8 from ⟨by decide +kernel, rfl⟩) ?_
    exact J_reti (show Dc Y_X12_oneOf 8 (.ireturn) 1 9 from ⟨by decide +kernel, rfl⟩) rfl (h0 _ _) (by decide) (by decide)

theorem c_X12_oneOf {l : Launch} {D : ZD} {B0 : Nat} (x0 : Nat) (x1 : Int32) (x2 : Int32) (g : ZS) : ∀ r, f_X12_oneOf x0 x1 x2 g = some r → zCt l D B0 yX12_oneOf Y_X12_oneOf [.ref x0, .int x1, .int x2] g (some (.int r.1)) r.2 :=
  zCt_ofF (vo := fun r => some (.int r.1)) (so := fun r => r.2) (by decide +kernel) rfl (fun h => by cases h) rfl (Nat.le_of_ble_eq_true rfl) (fun X => j_X12_oneOf x0 x1 x2 g (fun _ _ h => h))

theorem j_X12_wasRight_19 {X : ZX} (x0 : Nat)   (g : ZS) {K : (Int32 × ZS) → Prop} (h0 : ∀ v g, K (v, g) → xK X (some (.int v)) g) : J Y_X12_wasRight X 0 0 19 [some (.ref x0)] [] g (f_X12_wasRight_19 x0 g) K := by
  unfold f_X12_wasRight_19
  refine J_aload_n rfl rfl (show Dc Y_X12_wasRight 19 (.aload_n 0) 1 20 from ⟨by decide +kernel, rfl⟩) ?_
  refine J_callVi (fun r => r) (fun _ => g) (show Dc Y_X12_wasRight 20 (.invokevirtual 145) 3 23 from ⟨by decide +kernel, rfl⟩) w_m_RX12_145 w_in_X12_fine rfl w_se_X12_fine w_cw_X12_fine (c_X12_fine x0 g) rfl rfl (by decide) (Nat.le_of_ble_eq_true rfl) (by decide) (by decide) (fun v1 => ?_)
  exact J_retZ (show Dc Y_X12_wasRight 23 (.ireturn) 1 24 from ⟨by decide +kernel, rfl⟩) rfl (h0 _ _) (by decide) (by decide)

theorem j_X12_wasRight {X : ZX} (x0 : Nat)   (g : ZS) {K : (Int32 × ZS) → Prop} (h0 : ∀ v g, K (v, g) → xK X (some (.int v)) g) : J Y_X12_wasRight X 0 0 0 [some (.ref x0)] [] g (f_X12_wasRight x0 g) K := by
  unfold f_X12_wasRight
  refine J_aload_n rfl rfl (show Dc Y_X12_wasRight 0 (.aload_n 0) 1 1 from ⟨by decide +kernel, rfl⟩) ?_
  refine J_getI (show Dc Y_X12_wasRight 1 (.getfield 135) 3 4 from ⟨by decide +kernel, rfl⟩) w_f_RX12_135 rfl (fun v1 => ?_)
  refine J_aload_n rfl rfl (show Dc Y_X12_wasRight 4 (.aload_n 0) 1 5 from ⟨by decide +kernel, rfl⟩) ?_
  refine J_getI (show Dc Y_X12_wasRight 5 (.getfield 129) 3 8 from ⟨by decide +kernel, rfl⟩) w_f_RX12_129 rfl (fun v2 => ?_)
  refine J_icmp_ge (tg := 19) (show Dc Y_X12_wasRight 8 (.if_icmp .ge 11) 3 11 from ⟨by decide +kernel, rfl⟩) (by decide) (fun h => ?_) (fun h => ?_)
  · exact j_X12_wasRight_19 x0 g h0
  · refine J_aload_n rfl rfl (show Dc Y_X12_wasRight 11 (.aload_n 0) 1 12 from ⟨by decide +kernel, rfl⟩) ?_
    refine J_aload_n rfl rfl (show Dc Y_X12_wasRight 12 (.aload_n 0) 1 13 from ⟨by decide +kernel, rfl⟩) ?_
    refine J_getI (show Dc Y_X12_wasRight 13 (.getfield 135) 3 16 from ⟨by decide +kernel, rfl⟩) w_f_RX12_135 rfl (fun v3 => ?_)
    refine J_callVv (fun r => r) (show Dc Y_X12_wasRight 16 (.invokevirtual 157) 3 19 from ⟨by decide +kernel, rfl⟩) w_m_RX12_157 w_in_X12_fault rfl w_se_X12_fault w_cw_X12_fault (c_X12_fault x0 v3 g) rfl rfl (by decide) (Nat.le_of_ble_eq_true rfl) (by decide) (by decide) (fun g4 => ?_)
    exact j_X12_wasRight_19 x0 g4 h0

theorem c_X12_wasRight {l : Launch} {D : ZD} {B0 : Nat} (x0 : Nat) (g : ZS) : ∀ r, f_X12_wasRight x0 g = some r → zCt l D B0 yX12_wasRight Y_X12_wasRight [.ref x0] g (some (.int r.1)) r.2 :=
  zCt_ofF (vo := fun r => some (.int r.1)) (so := fun r => r.2) (by decide +kernel) rfl (fun h => by cases h) rfl (Nat.le_of_ble_eq_true rfl) (fun X => j_X12_wasRight x0 g (fun _ _ h => h))

theorem j_X12_readWords_28 {X : ZX} (N : Nat) (x0 : Nat) (x1 : Int32) (x2 : Int32)   (g : ZS) {K : ((Int32 × ZS) ⊕ (Int32 × ZS)) → Prop} (h0 : ∀ v g, K (.inr (v, g)) → xK X (some (.int v)) g) (hL8 : ∀ s, K (.inl s) → zG Y_X12_readWords X 0 0 8 [some (.ref x0), some (.int x1), some (.int s.1)] [] s.2) : J Y_X12_readWords X 0 0 28 [some (.ref x0), some (.int x1), some (.int x2)] [] g (f_X12_readWords_28 N x0 x1 x2 g) K := by
  unfold f_X12_readWords_28
  refine J_aload_n rfl rfl (show Dc Y_X12_readWords 28 (.aload_n 0) 1 29 from ⟨by decide +kernel, rfl⟩) ?_
  refine J_getR (show Dc Y_X12_readWords 29 (.getfield 33) 3 32 from ⟨by decide +kernel, rfl⟩) w_f_RX12_33 rfl (fun v1 => ?_)
  refine J_iload_n rfl rfl (show Dc Y_X12_readWords 32 (.iload_n 2) 1 33 from ⟨by decide +kernel, rfl⟩) ?_
  refine J_aload_n rfl rfl (show Dc Y_X12_readWords 33 (.aload_n 0) 1 34 from ⟨by decide +kernel, rfl⟩) ?_
  refine J_bipush (97 : Int32) rfl (show Dc Y_X12_readWords 34 (.bipush 97) 2 36 from ⟨by decide +kernel, rfl⟩) ?_
  refine J_bipush (8 : Int32) rfl (show Dc Y_X12_readWords 36 (.bipush 8) 2 38 from ⟨by decide +kernel, rfl⟩) ?_
  refine J_callVi (fun r => r.1) (fun r => r.2) (show Dc Y_X12_readWords 38 (.invokevirtual 161) 3 41 from ⟨by decide +kernel, rfl⟩) w_m_RX12_161 w_in_X12_oneOf rfl w_se_X12_oneOf w_cw_X12_oneOf (c_X12_oneOf x0 (97 : Int32) (8 : Int32) g) rfl rfl (by decide) (Nat.le_of_ble_eq_true rfl) (by decide) (by decide) (fun r2 => ?_)
  refine J_iast (show Dc Y_X12_readWords 41 (.iastore) 1 42 from ⟨by decide +kernel, rfl⟩) (fun g3 => ?_)
  refine J_iinc (1 : Int32) [some (.ref x0), some (.int x1), some (.int (x2 + (1 : Int32)))] (show Dc Y_X12_readWords 42 (.iinc 2 1) 3 45 from ⟨by decide +kernel, rfl⟩) rfl rfl (by decide) rfl rfl ?_
  refine J_goto (tg := 8) (show Dc Y_X12_readWords 45 (.goto (-37)) 3 48 from ⟨by decide +kernel, rfl⟩) (by decide) ?_
  exact J_leaf (fun h => hL8 (x2 + (1 : Int32), g3) h)

theorem j_X12_readWords_65 {X : ZX} (N : Nat)  (s0 : Int32)  (g : ZS) {K : (Int32 × ZS) → Prop} (h0 : ∀ v g, K (v, g) → xK X (some (.int v)) g) : J Y_X12_readWords X 0 0 65 [none, none, none] [.int s0] g (f_X12_readWords_65 N s0 g) K := by
  unfold f_X12_readWords_65
  exact J_reti (show Dc Y_X12_readWords 65 (.ireturn) 1 66 from ⟨by decide +kernel, rfl⟩) rfl (h0 _ _) (by decide) (by decide)

theorem j_X12_readWords_48 {X : ZX} (N : Nat) (x0 : Nat) (x2 : Int32)   (g : ZS) {K : (Int32 × ZS) → Prop} (h0 : ∀ v g, K (v, g) → xK X (some (.int v)) g) : J Y_X12_readWords X 0 0 48 [some (.ref x0), none, some (.int x2)] [] g (f_X12_readWords_48 N x0 x2 g) K := by
  unfold f_X12_readWords_48
  refine J_aload_n rfl rfl (show Dc Y_X12_readWords 48 (.aload_n 0) 1 49 from ⟨by decide +kernel, rfl⟩) ?_
  refine J_callVi (fun r => r.1) (fun r => r.2) (show Dc Y_X12_readWords 49 (.invokevirtual 168) 3 52 from ⟨by decide +kernel, rfl⟩) w_m_RX12_168 w_in_X12_wasRight rfl w_se_X12_wasRight w_cw_X12_wasRight (c_X12_wasRight x0 g) rfl rfl (by decide) (Nat.le_of_ble_eq_true rfl) (by decide) (by decide) (fun r1 => ?_)
  refine J_if_eq (tg := 59) (show Dc Y_X12_readWords 52 (.ifCond .eq 7) 3 55 from ⟨by decide +kernel, rfl⟩) (by decide) (fun h => ?_) (fun h => ?_)
  · refine J_iconst (-1 : Int32) rfl (show Dc Y_X12_readWords 59 (.iconst (-1)) 1 60 from ⟨by decide +kernel, rfl⟩) ?_
    refine J_aload_n rfl rfl (show Dc Y_X12_readWords 60 (.aload_n 0) 1 61 from ⟨by decide +kernel, rfl⟩) ?_
    refine J_getI (show Dc Y_X12_readWords 61 (.getfield 138) 3 64 from ⟨by decide +kernel, rfl⟩) w_f_RX12_138 rfl (fun v2 => ?_)
    refine J_isub (show Dc Y_X12_readWords 64 (.isub) 1 65 from ⟨by decide +kernel, rfl⟩) ?_
    refine J_mask [false, false, false] ?_
    exact j_X12_readWords_65 N ((-1 : Int32) - v2) r1.2 h0
  · refine J_iload_n rfl rfl (show Dc Y_X12_readWords 55 (.iload_n 2) 1 56 from ⟨by decide +kernel, rfl⟩) ?_
    refine J_goto (tg := 65) (show Dc Y_X12_readWords 56 (.goto 9) 3 59 from ⟨by decide +kernel, rfl⟩) (by decide) ?_
    refine J_mask [false, false, false] ?_
    exact j_X12_readWords_65 N x2 r1.2 h0

theorem j_X12_readWords_8 {X : ZX} (N : Nat) (x0 : Nat) (x1 : Int32) (x2 : Int32)   (g : ZS) {K : ((Int32 × ZS) ⊕ (Int32 × ZS)) → Prop} (h0 : ∀ v g, K (.inr (v, g)) → xK X (some (.int v)) g) (hL8 : ∀ s, K (.inl s) → zG Y_X12_readWords X 0 0 8 [some (.ref x0), some (.int x1), some (.int s.1)] [] s.2) : J Y_X12_readWords X 0 0 8 [some (.ref x0), some (.int x1), some (.int x2)] [] g (f_X12_readWords_8 N x0 x1 x2 g) K := by
  unfold f_X12_readWords_8
  refine J_aload_n rfl rfl (show Dc Y_X12_readWords 8 (.aload_n 0) 1 9 from ⟨by decide +kernel, rfl⟩) ?_
  refine J_callVi (fun r => r) (fun _ => g) (show Dc Y_X12_readWords 9 (.invokevirtual 145) 3 12 from ⟨by decide +kernel, rfl⟩) w_m_RX12_145 w_in_X12_fine rfl w_se_X12_fine w_cw_X12_fine (c_X12_fine x0 g) rfl rfl (by decide) (Nat.le_of_ble_eq_true rfl) (by decide) (by decide) (fun v1 => ?_)
  refine J_if_eq (tg := 48) (show Dc Y_X12_readWords 12 (.ifCond .eq 36) 3 15 from ⟨by decide +kernel, rfl⟩) (by decide) (fun h => ?_) (fun h => ?_)
  · refine J_mask [true, false, true] ?_
    refine J_map (f := Sum.inr) (fun _ h => h) ?_
    exact j_X12_readWords_48 (K := fun o => K (.inr o)) N x0 x2 g h0
  · refine J_iload_n rfl rfl (show Dc Y_X12_readWords 15 (.iload_n 2) 1 16 from ⟨by decide +kernel, rfl⟩) ?_
    refine J_iload_n rfl rfl (show Dc Y_X12_readWords 16 (.iload_n 1) 1 17 from ⟨by decide +kernel, rfl⟩) ?_
    refine J_icmp_lt (tg := 28) (show Dc Y_X12_readWords 17 (.if_icmp .lt 11) 3 20 from ⟨by decide +kernel, rfl⟩) (by decide) (fun h => ?_) (fun h => ?_)
    · exact j_X12_readWords_28 N x0 x1 x2 g h0 hL8
    · refine J_aload_n rfl rfl (show Dc Y_X12_readWords 20 (.aload_n 0) 1 21 from ⟨by decide +kernel, rfl⟩) ?_
      refine J_callVi (fun r => r) (fun _ => g) (show Dc Y_X12_readWords 21 (.invokevirtual 149) 3 24 from ⟨by decide +kernel, rfl⟩) w_m_RX12_149 w_in_X12_here rfl w_se_X12_here w_cw_X12_here (c_X12_here x0 g) rfl rfl (by decide) (Nat.le_of_ble_eq_true rfl) (by decide) (by decide) (fun v2 => ?_)
      refine J_iconst (-1 : Int32) rfl (show Dc Y_X12_readWords 24 (.iconst (-1)) 1 25 from ⟨by decide +kernel, rfl⟩) ?_
      refine J_icmp_eq (tg := 48) (show Dc Y_X12_readWords 25 (.if_icmp .eq 23) 3 28 from ⟨by decide +kernel, rfl⟩) (by decide) (fun h => ?_) (fun h => ?_)
      · refine J_mask [true, false, true] ?_
        refine J_map (f := Sum.inr) (fun _ h => h) ?_
        exact j_X12_readWords_48 (K := fun o => K (.inr o)) N x0 x2 g h0
      · exact j_X12_readWords_28 N x0 x1 x2 g h0 hL8

theorem j_X12_readWords {X : ZX} (N : Nat) (x0 : Nat) (x1 : Int32)   (g : ZS) {K : (Int32 × ZS) → Prop} (h0 : ∀ v g, K (v, g) → xK X (some (.int v)) g) : J Y_X12_readWords X 0 0 0 [some (.ref x0), some (.int x1), none] [] g (f_X12_readWords N x0 x1 g) K := by
  unfold f_X12_readWords
  refine J_aload_n rfl rfl (show Dc Y_X12_readWords 0 (.aload_n 0) 1 1 from ⟨by decide +kernel, rfl⟩) ?_
  refine J_bipush (16 : Int32) rfl (show Dc Y_X12_readWords 1 (.bipush 16) 2 3 from ⟨by decide +kernel, rfl⟩) ?_
  refine J_callVv (fun r => r) (show Dc Y_X12_readWords 3 (.invokevirtual 165) 3 6 from ⟨by decide +kernel, rfl⟩) w_m_RX12_165 w_in_X12_beginText rfl w_se_X12_beginText w_cw_X12_beginText (c_X12_beginText x0 (16 : Int32) g) rfl rfl (by decide) (Nat.le_of_ble_eq_true rfl) (by decide) (by decide) (fun g1 => ?_)
  refine J_iconst (0 : Int32) rfl (show Dc Y_X12_readWords 6 (.iconst 0) 1 7 from ⟨by decide +kernel, rfl⟩) ?_
  refine J_istore_n [some (.ref x0), some (.int x1), some (.int (0 : Int32))] (show Dc Y_X12_readWords 7 (.istore_n 2) 1 8 from ⟨by decide +kernel, rfl⟩) rfl (by decide) rfl rfl ?_
  exact J_loop (X := X) (K := K) (uc := fun _ => 0) (us := fun _ => 0) (lf := fun s => [some (.ref x0), some (.int x1), some (.int s.1)]) (gf := fun s => s.2) (fun s => j_X12_readWords_8 (K := zKl Y_X12_readWords X 8 (fun _ => 0) (fun _ => 0) (fun s => [some (.ref x0), some (.int x1), some (.int s.1)]) (fun s => s.2) K) N x0 x1 s.1 s.2 h0 (fun s h => h)) N ((0 : Int32), g1)

theorem c_X12_readWords {l : Launch} {D : ZD} {B0 : Nat} (N : Nat) (x0 : Nat) (x1 : Int32) (g : ZS) : ∀ r, f_X12_readWords N x0 x1 g = some r → zCt l D B0 yX12_readWords Y_X12_readWords [.ref x0, .int x1] g (some (.int r.1)) r.2 :=
  zCt_ofF (vo := fun r => some (.int r.1)) (so := fun r => r.2) (by decide +kernel) rfl (fun h => by cases h) rfl (Nat.le_of_ble_eq_true rfl) (fun X => j_X12_readWords N x0 x1 g (fun _ _ h => h))

theorem j_X12_house_41 {X : ZX} (N : Nat) (x0 : Nat) (x1 : Int32) (x2 : Int32) (x3 : Int32)   (g : ZS) {K : ((Int32 × ZS) ⊕ (Int32 × ZS)) → Prop} (h0 : ∀ v g, K (.inr (v, g)) → xK X (some (.int v)) g) (hL41 : ∀ s, K (.inl s) → zG Y_X12_house X 0 0 41 [some (.ref x0), some (.int x1), some (.int x2), some (.int s.1)] [] s.2) : J Y_X12_house X 0 0 41 [some (.ref x0), some (.int x1), some (.int x2), some (.int x3)] [] g (f_X12_house_41 N x0 x1 x2 x3 g) K := by
  unfold f_X12_house_41
  refine J_iload_n rfl rfl (show Dc Y_X12_house 41 (.iload_n 3) 1 42 from ⟨by decide +kernel, rfl⟩) ?_
  refine J_iload_n rfl rfl (show Dc Y_X12_house 42 (.iload_n 2) 1 43 from ⟨by decide +kernel, rfl⟩) ?_
  refine J_icmp_ge (tg := 69) (show Dc Y_X12_house 43 (.if_icmp .ge 26) 3 46 from ⟨by decide +kernel, rfl⟩) (by decide) (fun h => ?_) (fun h => ?_)
  · refine J_map (f := Sum.inr) (fun _ h => h) ?_
    refine J_iload_n rfl rfl (show Dc Y_X12_house 69 (.iload_n 2) 1 70 from ⟨by decide +kernel, rfl⟩) ?_
    exact J_reti (show Dc Y_X12_house 70 (.ireturn) 1 71 from ⟨by decide +kernel, rfl⟩) rfl (h0 _ _) (by decide) (by decide)
  · refine J_aload_n rfl rfl (show Dc Y_X12_house 46 (.aload_n 0) 1 47 from ⟨by decide +kernel, rfl⟩) ?_
    refine J_getR (show Dc Y_X12_house 47 (.getfield 19) 3 50 from ⟨by decide +kernel, rfl⟩) w_f_RX12_19 rfl (fun v1 => ?_)
    refine J_bipush (16 : Int32) rfl (show Dc Y_X12_house 50 (.bipush 16) 2 52 from ⟨by decide +kernel, rfl⟩) ?_
    refine J_iload_n rfl rfl (show Dc Y_X12_house 52 (.iload_n 1) 1 53 from ⟨by decide +kernel, rfl⟩) ?_
    refine J_imul (show Dc Y_X12_house 53 (.imul) 1 54 from ⟨by decide +kernel, rfl⟩) ?_
    refine J_iload_n rfl rfl (show Dc Y_X12_house 54 (.iload_n 3) 1 55 from ⟨by decide +kernel, rfl⟩) ?_
    refine J_iadd (show Dc Y_X12_house 55 (.iadd) 1 56 from ⟨by decide +kernel, rfl⟩) ?_
    refine J_aload_n rfl rfl (show Dc Y_X12_house 56 (.aload_n 0) 1 57 from ⟨by decide +kernel, rfl⟩) ?_
    refine J_getR (show Dc Y_X12_house 57 (.getfield 33) 3 60 from ⟨by decide +kernel, rfl⟩) w_f_RX12_33 rfl (fun v2 => ?_)
    refine J_iload_n rfl rfl (show Dc Y_X12_house 60 (.iload_n 3) 1 61 from ⟨by decide +kernel, rfl⟩) ?_
    refine J_iald (show Dc Y_X12_house 61 (.iaload) 1 62 from ⟨by decide +kernel, rfl⟩) (fun v3 => ?_)
    refine J_iast (show Dc Y_X12_house 62 (.iastore) 1 63 from ⟨by decide +kernel, rfl⟩) (fun g4 => ?_)
    refine J_iinc (1 : Int32) [some (.ref x0), some (.int x1), some (.int x2), some (.int (x3 + (1 : Int32)))] (show Dc Y_X12_house 63 (.iinc 3 1) 3 66 from ⟨by decide +kernel, rfl⟩) rfl rfl (by decide) rfl rfl ?_
    refine J_goto (tg := 41) (show Dc Y_X12_house 66 (.goto (-25)) 3 69 from ⟨by decide +kernel, rfl⟩) (by decide) ?_
    exact J_leaf (fun h => hL41 (x3 + (1 : Int32), g4) h)

theorem j_X12_house {X : ZX} (N : Nat) (x0 : Nat) (x1 : Int32)   (g : ZS) {K : (Int32 × ZS) → Prop} (h0 : ∀ v g, K (v, g) → xK X (some (.int v)) g) : J Y_X12_house X 0 0 0 [some (.ref x0), some (.int x1), none, none] [] g (f_X12_house N x0 x1 g) K := by
  unfold f_X12_house
  refine J_aload_n rfl rfl (show Dc Y_X12_house 0 (.aload_n 0) 1 1 from ⟨by decide +kernel, rfl⟩) ?_
  refine J_iconst (0 : Int32) rfl (show Dc Y_X12_house 1 (.iconst 0) 1 2 from ⟨by decide +kernel, rfl⟩) ?_
  refine J_putI (show Dc Y_X12_house 2 (.putfield 109) 3 5 from ⟨by decide +kernel, rfl⟩) w_f_RX12_109 rfl rfl (fun g1 => ?_) (fun h => by cases h)
  refine J_iload_n rfl rfl (show Dc Y_X12_house 5 (.iload_n 1) 1 6 from ⟨by decide +kernel, rfl⟩) ?_
  refine J_callSi (fun r => r) (fun _ => g1) (show Dc Y_X12_house 6 (.invokestatic 171) 3 9 from ⟨by decide +kernel, rfl⟩) w_m_RX12_171 w_st_X12_isHouse w_cw_X12_isHouse (c_X12_isHouse x1 g1) rfl rfl (by decide) (Nat.le_of_ble_eq_true rfl) (by decide) (by decide) (fun v2 => ?_)
  refine J_if_ne (tg := 20) (show Dc Y_X12_house 9 (.ifCond .ne 11) 3 12 from ⟨by decide +kernel, rfl⟩) (by decide) (fun h => ?_) (fun h => ?_)
  · refine J_aload_n rfl rfl (show Dc Y_X12_house 20 (.aload_n 0) 1 21 from ⟨by decide +kernel, rfl⟩) ?_
    refine J_iconst (1 : Int32) rfl (show Dc Y_X12_house 21 (.iconst 1) 1 22 from ⟨by decide +kernel, rfl⟩) ?_
    refine J_callVi (fun r => r.1) (fun r => r.2) (show Dc Y_X12_house 22 (.invokevirtual 175) 3 25 from ⟨by decide +kernel, rfl⟩) w_m_RX12_175 w_in_X12_readWords rfl w_se_X12_readWords w_cw_X12_readWords (c_X12_readWords N x0 (1 : Int32) g1) rfl rfl (by decide) (Nat.le_of_ble_eq_true rfl) (by decide) (by decide) (fun r3 => ?_)
    refine J_istore_n [some (.ref x0), some (.int x1), some (.int r3.1), none] (show Dc Y_X12_house 25 (.istore_n 2) 1 26 from ⟨by decide +kernel, rfl⟩) rfl (by decide) rfl rfl ?_
    refine J_iload_n rfl rfl (show Dc Y_X12_house 26 (.iload_n 2) 1 27 from ⟨by decide +kernel, rfl⟩) ?_
    refine J_if_ge (tg := 32) (show Dc Y_X12_house 27 (.ifCond .ge 5) 3 30 from ⟨by decide +kernel, rfl⟩) (by decide) (fun h => ?_) (fun h => ?_)
    · refine J_aload_n rfl rfl (show Dc Y_X12_house 32 (.aload_n 0) 1 33 from ⟨by decide +kernel, rfl⟩) ?_
      refine J_getR (show Dc Y_X12_house 33 (.getfield 22) 3 36 from ⟨by decide +kernel, rfl⟩) w_f_RX12_22 rfl (fun v4 => ?_)
      refine J_iload_n rfl rfl (show Dc Y_X12_house 36 (.iload_n 1) 1 37 from ⟨by decide +kernel, rfl⟩) ?_
      refine J_iload_n rfl rfl (show Dc Y_X12_house 37 (.iload_n 2) 1 38 from ⟨by decide +kernel, rfl⟩) ?_
      refine J_iast (show Dc Y_X12_house 38 (.iastore) 1 39 from ⟨by decide +kernel, rfl⟩) (fun g5 => ?_)
      refine J_iconst (0 : Int32) rfl (show Dc Y_X12_house 39 (.iconst 0) 1 40 from ⟨by decide +kernel, rfl⟩) ?_
      refine J_istore_n [some (.ref x0), some (.int x1), some (.int r3.1), some (.int (0 : Int32))] (show Dc Y_X12_house 40 (.istore_n 3) 1 41 from ⟨by decide +kernel, rfl⟩) rfl (by decide) rfl rfl ?_
      exact J_loop (X := X) (K := K) (uc := fun _ => 0) (us := fun _ => 0) (lf := fun s => [some (.ref x0), some (.int x1), some (.int r3.1), some (.int s.1)]) (gf := fun s => s.2) (fun s => j_X12_house_41 (K := zKl Y_X12_house X 41 (fun _ => 0) (fun _ => 0) (fun s => [some (.ref x0), some (.int x1), some (.int r3.1), some (.int s.1)]) (fun s => s.2) K) N x0 x1 r3.1 s.1 s.2 h0 (fun s h => h)) N ((0 : Int32), g5)
    · refine J_iload_n rfl rfl (show Dc Y_X12_house 30 (.iload_n 2) 1 31 from ⟨by decide +kernel, rfl⟩) ?_
      exact J_reti (show Dc Y_X12_house 31 (.ireturn) 1 32 from ⟨by decide +kernel, rfl⟩) rfl (h0 _ _) (by decide) (by decide)
  · refine J_aload_n rfl rfl (show Dc Y_X12_house 12 (.aload_n 0) 1 13 from ⟨by decide +kernel, rfl⟩) ?_
    refine J_iconst (0 : Int32) rfl (show Dc Y_X12_house 13 (.iconst 0) 1 14 from ⟨by decide +kernel, rfl⟩) ?_
    refine J_putI (show Dc Y_X12_house 14 (.putfield 123) 3 17 from ⟨by decide +kernel, rfl⟩) w_f_RX12_123 rfl rfl (fun g6 => ?_) (fun h => by cases h)
    refine J_bipush (-100 : Int32) rfl (show Dc Y_X12_house 17 (.bipush (-100)) 2 19 from ⟨by decide +kernel, rfl⟩) ?_
    exact J_reti (show Dc Y_X12_house 19 (.ireturn) 1 20 from ⟨by decide +kernel, rfl⟩) rfl (h0 _ _) (by decide) (by decide)

theorem c_X12_house {l : Launch} {D : ZD} {B0 : Nat} (N : Nat) (x0 : Nat) (x1 : Int32) (g : ZS) : ∀ r, f_X12_house N x0 x1 g = some r → zCt l D B0 yX12_house Y_X12_house [.ref x0, .int x1] g (some (.int r.1)) r.2 :=
  zCt_ofF (vo := fun r => some (.int r.1)) (so := fun r => r.2) (by decide +kernel) rfl (fun h => by cases h) rfl (Nat.le_of_ble_eq_true rfl) (fun X => j_X12_house N x0 x1 g (fun _ _ h => h))

theorem j_X8_digitAt_26 {X : ZX}  (s0 : Int32)  (g : ZS) {K : Int32 → Prop} (h0 : ∀ v, K v → xK X (some (.int v)) g) : J Y_X8_digitAt X 0 0 26 [none, none, none] [.int s0] g (f_X8_digitAt_26 s0 g) K := by
  unfold f_X8_digitAt_26
  exact J_reti (show Dc Y_X8_digitAt 26 (.ireturn) 1 27 from ⟨by decide +kernel, rfl⟩) rfl (h0 _) (by decide) (by decide)

theorem j_X8_digitAt_25 {X : ZX}    (g : ZS) {K : Int32 → Prop} (h0 : ∀ v, K v → xK X (some (.int v)) g) : J Y_X8_digitAt X 0 0 25 [none, none, none] [] g (f_X8_digitAt_25 g) K := by
  unfold f_X8_digitAt_25
  refine J_iconst (-1 : Int32) rfl (show Dc Y_X8_digitAt 25 (.iconst (-1)) 1 26 from ⟨by decide +kernel, rfl⟩) ?_
  exact j_X8_digitAt_26 (-1 : Int32) g h0

theorem j_X8_digitAt {X : ZX} (x0 : Nat) (x1 : Int32)   (g : ZS) {K : Int32 → Prop} (h0 : ∀ v, K v → xK X (some (.int v)) g) : J Y_X8_digitAt X 0 0 0 [some (.ref x0), some (.int x1), none] [] g (f_X8_digitAt x0 x1 g) K := by
  unfold f_X8_digitAt
  refine J_aload_n rfl rfl (show Dc Y_X8_digitAt 0 (.aload_n 0) 1 1 from ⟨by decide +kernel, rfl⟩) ?_
  refine J_iload_n rfl rfl (show Dc Y_X8_digitAt 1 (.iload_n 1) 1 2 from ⟨by decide +kernel, rfl⟩) ?_
  refine J_callVi (fun r => r) (fun _ => g) (show Dc Y_X8_digitAt 2 (.invokevirtual 19) 3 5 from ⟨by decide +kernel, rfl⟩) w_m_RX8_19 w_in_X8_at rfl w_se_X8_at w_cw_X8_at (c_X8_at x0 x1 g) rfl rfl (by decide) (Nat.le_of_ble_eq_true rfl) (by decide) (by decide) (fun v1 => ?_)
  refine J_istore_n [some (.ref x0), some (.int x1), some (.int v1)] (show Dc Y_X8_digitAt 5 (.istore_n 2) 1 6 from ⟨by decide +kernel, rfl⟩) rfl (by decide) rfl rfl ?_
  refine J_iload_n rfl rfl (show Dc Y_X8_digitAt 6 (.iload_n 2) 1 7 from ⟨by decide +kernel, rfl⟩) ?_
  refine J_bipush (48 : Int32) rfl (show Dc Y_X8_digitAt 7 (.bipush 48) 2 9 from ⟨by decide +kernel, rfl⟩) ?_
  refine J_icmp_lt (tg := 25) (show Dc Y_X8_digitAt 9 (.if_icmp .lt 16) 3 12 from ⟨by decide +kernel, rfl⟩) (by decide) (fun h => ?_) (fun h => ?_)
  · refine J_mask [false, false, false] ?_
    exact j_X8_digitAt_25 g h0
  · refine J_iload_n rfl rfl (show Dc Y_X8_digitAt 12 (.iload_n 2) 1 13 from ⟨by decide +kernel, rfl⟩) ?_
    refine J_bipush (57 : Int32) rfl (show Dc Y_X8_digitAt 13 (.bipush 57) 2 15 from ⟨by decide +kernel, rfl⟩) ?_
    refine J_icmp_gt (tg := 25) (show Dc Y_X8_digitAt 15 (.if_icmp .gt 10) 3 18 from ⟨by decide +kernel, rfl⟩) (by decide) (fun h => ?_) (fun h => ?_)
    · refine J_mask [false, false, false] ?_
      exact j_X8_digitAt_25 g h0
    · refine J_iload_n rfl rfl (show Dc Y_X8_digitAt 18 (.iload_n 2) 1 19 from ⟨by decide +kernel, rfl⟩) ?_
      refine J_bipush (48 : Int32) rfl (show Dc Y_X8_digitAt 19 (.bipush 48) 2 21 from ⟨by decide +kernel, rfl⟩) ?_
      refine J_isub (show Dc Y_X8_digitAt 21 (.isub) 1 22 from ⟨by decide +kernel, rfl⟩) ?_
      refine J_goto (tg := 26) (show Dc Y_X8_digitAt 22 (.goto 4) 3 25 from ⟨by decide +kernel, rfl⟩) (by decide) ?_
      refine J_mask [false, false, false] ?_
      exact j_X8_digitAt_26 (v1 - (48 : Int32)) g h0

theorem c_X8_digitAt {l : Launch} {D : ZD} {B0 : Nat} (x0 : Nat) (x1 : Int32) (g : ZS) : ∀ r, f_X8_digitAt x0 x1 g = some r → zCt l D B0 yX8_digitAt Y_X8_digitAt [.ref x0, .int x1] g (some (.int r)) g :=
  zCt_ofF (vo := fun r => some (.int r)) (so := fun _ => g) (by decide +kernel) rfl (fun h => by cases h) rfl (Nat.le_of_ble_eq_true rfl) (fun X => j_X8_digitAt x0 x1 g (fun _ h => h))

theorem j_X11_standsInParrots_45 {X : ZX}  (s0 : Int32)  (g : ZS) {K : Int32 → Prop} (h0 : ∀ v, K v → xK X (some (.int v)) g) : J Y_X11_standsInParrots X 0 0 45 [none, none, none] [.int s0] g (f_X11_standsInParrots_45 s0 g) K := by
  unfold f_X11_standsInParrots_45
  exact J_retZ (show Dc Y_X11_standsInParrots 45 (.ireturn) 1 46 from ⟨by decide +kernel, rfl⟩) rfl (h0 _) (by decide) (by decide)

theorem j_X11_standsInParrots_44 {X : ZX}    (g : ZS) {K : Int32 → Prop} (h0 : ∀ v, K v → xK X (some (.int v)) g) : J Y_X11_standsInParrots X 0 0 44 [none, none, none] [] g (f_X11_standsInParrots_44 g) K := by
  unfold f_X11_standsInParrots_44
  refine J_iconst (0 : Int32) rfl (show Dc Y_X11_standsInParrots 44 (.iconst 0) 1 45 from ⟨by decide +kernel, rfl⟩) ?_
  exact j_X11_standsInParrots_45 (0 : Int32) g h0

theorem j_X11_standsInParrots_69 {X : ZX}  (s0 : Int32)  (g : ZS) {K : Int32 → Prop} (h0 : ∀ v, K v → xK X (some (.int v)) g) : J Y_X11_standsInParrots X 0 0 69 [none, none, none] [.int s0] g (f_X11_standsInParrots_69 s0 g) K := by
  unfold f_X11_standsInParrots_69
  exact J_retZ (show Dc Y_X11_standsInParrots 69 (.ireturn) 1 70 from ⟨by decide +kernel, rfl⟩) rfl (h0 _) (by decide) (by decide)

theorem j_X11_standsInParrots_68 {X : ZX}    (g : ZS) {K : Int32 → Prop} (h0 : ∀ v, K v → xK X (some (.int v)) g) : J Y_X11_standsInParrots X 0 0 68 [none, none, none] [] g (f_X11_standsInParrots_68 g) K := by
  unfold f_X11_standsInParrots_68
  refine J_iconst (0 : Int32) rfl (show Dc Y_X11_standsInParrots 68 (.iconst 0) 1 69 from ⟨by decide +kernel, rfl⟩) ?_
  exact j_X11_standsInParrots_69 (0 : Int32) g h0

theorem j_X11_standsInParrots_88 {X : ZX}  (s0 : Int32)  (g : ZS) {K : Int32 → Prop} (h0 : ∀ v, K v → xK X (some (.int v)) g) : J Y_X11_standsInParrots X 0 0 88 [none, none, none] [.int s0] g (f_X11_standsInParrots_88 s0 g) K := by
  unfold f_X11_standsInParrots_88
  exact J_retZ (show Dc Y_X11_standsInParrots 88 (.ireturn) 1 89 from ⟨by decide +kernel, rfl⟩) rfl (h0 _) (by decide) (by decide)

theorem j_X11_standsInParrots {X : ZX} (x0 : Nat) (x1 : Int32)   (g : ZS) {K : Int32 → Prop} (h0 : ∀ v, K v → xK X (some (.int v)) g) : J Y_X11_standsInParrots X 0 0 0 [some (.ref x0), some (.int x1), none] [] g (f_X11_standsInParrots x0 x1 g) K := by
  unfold f_X11_standsInParrots
  refine J_aload_n rfl rfl (show Dc Y_X11_standsInParrots 0 (.aload_n 0) 1 1 from ⟨by decide +kernel, rfl⟩) ?_
  refine J_getR (show Dc Y_X11_standsInParrots 1 (.getfield 10) 3 4 from ⟨by decide +kernel, rfl⟩) w_f_RX11_10 rfl (fun v1 => ?_)
  refine J_iload_n rfl rfl (show Dc Y_X11_standsInParrots 4 (.iload_n 1) 1 5 from ⟨by decide +kernel, rfl⟩) ?_
  refine J_callVi (fun r => r) (fun _ => g) (show Dc Y_X11_standsInParrots 5 (.invokevirtual 135) 3 8 from ⟨by decide +kernel, rfl⟩) w_m_RX11_135 w_in_X8_digitAt rfl w_se_X8_digitAt w_cw_X8_digitAt (c_X8_digitAt v1 x1 g) rfl rfl (by decide) (Nat.le_of_ble_eq_true rfl) (by decide) (by decide) (fun v2 => ?_)
  refine J_istore_n [some (.ref x0), some (.int x1), some (.int v2)] (show Dc Y_X11_standsInParrots 8 (.istore_n 2) 1 9 from ⟨by decide +kernel, rfl⟩) rfl (by decide) rfl rfl ?_
  refine J_iload_n rfl rfl (show Dc Y_X11_standsInParrots 9 (.iload_n 1) 1 10 from ⟨by decide +kernel, rfl⟩) ?_
  refine J_iconst (3 : Int32) rfl (show Dc Y_X11_standsInParrots 10 (.iconst 3) 1 11 from ⟨by decide +kernel, rfl⟩) ?_
  refine J_iremC (by decide) (show Dc Y_X11_standsInParrots 11 (.irem) 1 12 from ⟨by decide +kernel, rfl⟩) ?_
  refine J_if_ne (tg := 46) (show Dc Y_X11_standsInParrots 12 (.ifCond .ne 34) 3 15 from ⟨by decide +kernel, rfl⟩) (by decide) (fun h => ?_) (fun h => ?_)
  · refine J_iload_n rfl rfl (show Dc Y_X11_standsInParrots 46 (.iload_n 1) 1 47 from ⟨by decide +kernel, rfl⟩) ?_
    refine J_iconst (3 : Int32) rfl (show Dc Y_X11_standsInParrots 47 (.iconst 3) 1 48 from ⟨by decide +kernel, rfl⟩) ?_
    refine J_iremC (by decide) (show Dc Y_X11_standsInParrots 48 (.irem) 1 49 from ⟨by decide +kernel, rfl⟩) ?_
    refine J_iconst (1 : Int32) rfl (show Dc Y_X11_standsInParrots 49 (.iconst 1) 1 50 from ⟨by decide +kernel, rfl⟩) ?_
    refine J_icmp_ne (tg := 70) (show Dc Y_X11_standsInParrots 50 (.if_icmp .ne 20) 3 53 from ⟨by decide +kernel, rfl⟩) (by decide) (fun h => ?_) (fun h => ?_)
    · refine J_aload_n rfl rfl (show Dc Y_X11_standsInParrots 70 (.aload_n 0) 1 71 from ⟨by decide +kernel, rfl⟩) ?_
      refine J_getR (show Dc Y_X11_standsInParrots 71 (.getfield 10) 3 74 from ⟨by decide +kernel, rfl⟩) w_f_RX11_10 rfl (fun v3 => ?_)
      refine J_iload_n rfl rfl (show Dc Y_X11_standsInParrots 74 (.iload_n 1) 1 75 from ⟨by decide +kernel, rfl⟩) ?_
      refine J_callVi (fun r => r) (fun _ => g) (show Dc Y_X11_standsInParrots 75 (.invokevirtual 147) 3 78 from ⟨by decide +kernel, rfl⟩) w_m_RX11_147 w_in_X8_at rfl w_se_X8_at w_cw_X8_at (c_X8_at v3 x1 g) rfl rfl (by decide) (Nat.le_of_ble_eq_true rfl) (by decide) (by decide) (fun v4 => ?_)
      refine J_bipush (59 : Int32) rfl (show Dc Y_X11_standsInParrots 78 (.bipush 59) 2 80 from ⟨by decide +kernel, rfl⟩) ?_
      refine J_icmp_ne (tg := 87) (show Dc Y_X11_standsInParrots 80 (.if_icmp .ne 7) 3 83 from ⟨by decide +kernel, rfl⟩) (by decide) (fun h => ?_) (fun h => ?_)
      · refine J_iconst (0 : Int32) rfl (show Dc Y_X11_standsInParrots 87 (.iconst 0) 1 88 from ⟨by decide +kernel, rfl⟩) ?_
        refine J_mask [false, false, false] ?_
        exact j_X11_standsInParrots_88 (0 : Int32) g h0
      · refine J_iconst (1 : Int32) rfl (show Dc Y_X11_standsInParrots 83 (.iconst 1) 1 84 from ⟨by decide +kernel, rfl⟩) ?_
        refine J_goto (tg := 88) (show Dc Y_X11_standsInParrots 84 (.goto 4) 3 87 from ⟨by decide +kernel, rfl⟩) (by decide) ?_
        refine J_mask [false, false, false] ?_
        exact j_X11_standsInParrots_88 (1 : Int32) g h0
    · refine J_iload_n rfl rfl (show Dc Y_X11_standsInParrots 53 (.iload_n 2) 1 54 from ⟨by decide +kernel, rfl⟩) ?_
      refine J_iconst (1 : Int32) rfl (show Dc Y_X11_standsInParrots 54 (.iconst 1) 1 55 from ⟨by decide +kernel, rfl⟩) ?_
      refine J_icmp_lt (tg := 68) (show Dc Y_X11_standsInParrots 55 (.if_icmp .lt 13) 3 58 from ⟨by decide +kernel, rfl⟩) (by decide) (fun h => ?_) (fun h => ?_)
      · refine J_mask [false, false, false] ?_
        exact j_X11_standsInParrots_68 g h0
      · refine J_iload_n rfl rfl (show Dc Y_X11_standsInParrots 58 (.iload_n 2) 1 59 from ⟨by decide +kernel, rfl⟩) ?_
        refine J_bipush (8 : Int32) rfl (show Dc Y_X11_standsInParrots 59 (.bipush 8) 2 61 from ⟨by decide +kernel, rfl⟩) ?_
        refine J_icmp_gt (tg := 68) (show Dc Y_X11_standsInParrots 61 (.if_icmp .gt 7) 3 64 from ⟨by decide +kernel, rfl⟩) (by decide) (fun h => ?_) (fun h => ?_)
        · refine J_mask [false, false, false] ?_
          exact j_X11_standsInParrots_68 g h0
        · refine J_iconst (1 : Int32) rfl (show Dc Y_X11_standsInParrots 64 (.iconst 1) 1 65 from ⟨by decide +kernel, rfl⟩) ?_
          refine J_goto (tg := 69) (show Dc Y_X11_standsInParrots 65 (.goto 4) 3 68 from ⟨by decide +kernel, rfl⟩) (by decide) ?_
          refine J_mask [false, false, false] ?_
          exact j_X11_standsInParrots_69 (1 : Int32) g h0
  · refine J_iload_n rfl rfl (show Dc Y_X11_standsInParrots 15 (.iload_n 2) 1 16 from ⟨by decide +kernel, rfl⟩) ?_
    refine J_if_lt (tg := 44) (show Dc Y_X11_standsInParrots 16 (.ifCond .lt 28) 3 19 from ⟨by decide +kernel, rfl⟩) (by decide) (fun h => ?_) (fun h => ?_)
    · refine J_mask [false, false, false] ?_
      exact j_X11_standsInParrots_44 g h0
    · refine J_iload_n rfl rfl (show Dc Y_X11_standsInParrots 19 (.iload_n 2) 1 20 from ⟨by decide +kernel, rfl⟩) ?_
      refine J_iconst (4 : Int32) rfl (show Dc Y_X11_standsInParrots 20 (.iconst 4) 1 21 from ⟨by decide +kernel, rfl⟩) ?_
      refine J_icmp_ge (tg := 44) (show Dc Y_X11_standsInParrots 21 (.if_icmp .ge 23) 3 24 from ⟨by decide +kernel, rfl⟩) (by decide) (fun h => ?_) (fun h => ?_)
      · refine J_mask [false, false, false] ?_
        exact j_X11_standsInParrots_44 g h0
      · refine J_aload_n rfl rfl (show Dc Y_X11_standsInParrots 24 (.aload_n 0) 1 25 from ⟨by decide +kernel, rfl⟩) ?_
        refine J_getR (show Dc Y_X11_standsInParrots 25 (.getfield 47) 3 28 from ⟨by decide +kernel, rfl⟩) w_f_RX11_47 rfl (fun v5 => ?_)
        refine J_getI (show Dc Y_X11_standsInParrots 28 (.getfield 146) 3 31 from ⟨by decide +kernel, rfl⟩) w_f_RX11_146 rfl (fun v6 => ?_)
        refine J_iload_n rfl rfl (show Dc Y_X11_standsInParrots 31 (.iload_n 1) 1 32 from ⟨by decide +kernel, rfl⟩) ?_
        refine J_iconst (3 : Int32) rfl (show Dc Y_X11_standsInParrots 32 (.iconst 3) 1 33 from ⟨by decide +kernel, rfl⟩) ?_
        refine J_idivC (by decide) (show Dc Y_X11_standsInParrots 33 (.idiv) 1 34 from ⟨by decide +kernel, rfl⟩) ?_
        refine J_iadd (show Dc Y_X11_standsInParrots 34 (.iadd) 1 35 from ⟨by decide +kernel, rfl⟩) ?_
        refine J_bipush (6 : Int32) rfl (show Dc Y_X11_standsInParrots 35 (.bipush 6) 2 37 from ⟨by decide +kernel, rfl⟩) ?_
        refine J_icmp_ge (tg := 44) (show Dc Y_X11_standsInParrots 37 (.if_icmp .ge 7) 3 40 from ⟨by decide +kernel, rfl⟩) (by decide) (fun h => ?_) (fun h => ?_)
        · refine J_mask [false, false, false] ?_
          exact j_X11_standsInParrots_44 g h0
        · refine J_iconst (1 : Int32) rfl (show Dc Y_X11_standsInParrots 40 (.iconst 1) 1 41 from ⟨by decide +kernel, rfl⟩) ?_
          refine J_goto (tg := 45) (show Dc Y_X11_standsInParrots 41 (.goto 4) 3 44 from ⟨by decide +kernel, rfl⟩) (by decide) ?_
          refine J_mask [false, false, false] ?_
          exact j_X11_standsInParrots_45 (1 : Int32) g h0

theorem c_X11_standsInParrots {l : Launch} {D : ZD} {B0 : Nat} (x0 : Nat) (x1 : Int32) (g : ZS) : ∀ r, f_X11_standsInParrots x0 x1 g = some r → zCt l D B0 yX11_standsInParrots Y_X11_standsInParrots [.ref x0, .int x1] g (some (.int r)) g :=
  zCt_ofF (vo := fun r => some (.int r)) (so := fun _ => g) (by decide +kernel) rfl (fun h => by cases h) rfl (Nat.le_of_ble_eq_true rfl) (fun X => j_X11_standsInParrots x0 x1 g (fun _ h => h))
