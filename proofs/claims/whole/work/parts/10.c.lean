def f_X5_fondness_180 (N : Nat) (x0 : Nat) (x1 : Nat) (x2 : Int32) (x3 : Int32) (x4 : Int32) (x5 : Int32)  (g : ZS) : Option ((Int32 × Int32 × ZS) ⊕ (Int32 × ZS)) :=
  some (.inl (x4, x5 + (1 : Int32), g))

def f_X5_fondness_95 (N : Nat) (x0 : Nat) (x1 : Nat) (x2 : Int32) (x3 : Int32) (x4 : Int32) (x5 : Int32) (s0 : Nat) (s1 : Int32) (s2 : Int32) (g : ZS) : Option ((Int32 × Int32 × ZS) ⊕ (Int32 × ZS)) :=
  (zast 20 g s0 s1 s2).bind fun g1 =>
  f_X5_fondness_180 N x0 x1 x2 x3 (x4 + (1 : Int32)) x5 g1

def f_X5_fondness_137 (N : Nat) (x0 : Nat) (x1 : Nat) (x2 : Int32) (x3 : Int32) (x4 : Int32) (x5 : Int32) (x6 : Int32)  (g : ZS) : Option ((Int32 × Int32 × ZS) ⊕ (Int32 × ZS)) :=
  if x4 ≤ (1 : Int32) then
    f_X5_fondness_180 N x0 x1 x2 x3 x4 x5 g
  else
    (zrdR g x0 5 1).bind fun v1 =>
    (zrdR g x0 5 1).bind fun v2 =>
    (zald 20 g v2 ((x4 + (-1 : Int32)) - (1 : Int32))).bind fun v3 =>
    (zrdR g x0 5 1).bind fun v4 =>
    (zald 20 g v4 (x4 + (-1 : Int32))).bind fun v5 =>
    (f_X5_join (x6 - (2000 : Int32)) v3 v5).bind fun v6 =>
    (zast 20 g v1 ((x4 + (-1 : Int32)) - (1 : Int32)) v6).bind fun g7 =>
    f_X5_fondness_180 N x0 x1 x2 x3 (x4 + (-1 : Int32)) x5 g7

def f_X5_fondness_38 (N : Nat) (x0 : Nat) (x1 : Nat) (x2 : Int32) (x3 : Int32) (x4 : Int32) (x5 : Int32)  (g : ZS) : Option ((Int32 × Int32 × ZS) ⊕ (Int32 × ZS)) :=
  (zrdI g x0 5 4).bind fun v1 =>
  if v1 ≤ x5 then
    (
      (zrdR g x0 5 1).bind fun v2 =>
      (zald 20 g v2 (0 : Int32)).bind fun v3 =>
      some (v3, g)).map Sum.inr
  else
    (zrdR g x0 5 0).bind fun v4 =>
    (zald 20 g v4 x5).bind fun v5 =>
    if (2000 : Int32) ≤ v5 then
      if v5 = (2256 : Int32) then
        if x4 ≤ 0 then
          f_X5_fondness_137 N x0 x1 x2 x3 x4 x5 v5 g
        else
          (zrdR g x0 5 1).bind fun v6 =>
          (zrdR g x0 5 1).bind fun v7 =>
          (zald 20 g v7 (x4 - (1 : Int32))).bind fun v8 =>
          (zast 20 g v6 (x4 - (1 : Int32)) (-v8)).bind fun g9 =>
          f_X5_fondness_180 N x0 x1 x2 x3 x4 x5 g9
      else
        f_X5_fondness_137 N x0 x1 x2 x3 x4 x5 v5 g
    else
      (zrdR g x0 5 1).bind fun v10 =>
      if (1000 : Int32) ≤ v5 then
        (f_X5_valueOf (v5 - (1000 : Int32)) x1 x2 x3 g).bind fun v11 =>
        f_X5_fondness_95 N x0 x1 x2 x3 x4 x5 v10 x4 v11 g
      else
        f_X5_fondness_95 N x0 x1 x2 x3 x4 x5 v10 x4 v5 g

def f_X5_fondness (N : Nat) (x0 : Nat) (x1 : Nat) (x2 : Int32) (x3 : Int32)  (g : ZS) : Option (Int32 × ZS) :=
  (zrdI g x0 5 4).bind fun v1 =>
  if v1 = 0 then
    (zrdR g x1 0 0).bind fun v2 =>
    (zald 20 g v2 x2).bind fun v3 =>
    (zrdR g x1 0 1).bind fun v4 =>
    (zald 20 g v4 x2).bind fun v5 =>
    (zrdR g x1 0 3).bind fun v6 =>
    (zald 20 g v6 x2).bind fun v7 =>
    some (((v3 * (3 : Int32)) - v5) + (v7 * (5 : Int32)), g)
  else
    zloop (fun s => f_X5_fondness_38 N x0 x1 x2 x3 s.1 s.2.1 s.2.2) N ((0 : Int32), (0 : Int32), g)

def f_X12_isWord (x0 : Int32)  : Option Int32 :=
  (f_X12_in x0 (0 : Int32) (7 : Int32)).bind fun v1 =>
  if vp_nar .boolean v1 = v1 then some v1 else none

def f_X2_wordOn_27  (s0 : Int32) (g : ZS) : Option Int32 :=
  some s0

def f_X2_wordOn (x0 : Nat) (x1 : Int32) (x2 : Int32)  (g : ZS) : Option Int32 :=
  (zrdR g x0 2 1).bind fun v1 =>
  (zald 20 g v1 x1).bind fun v2 =>
  if v2 ≤ 0 then
    f_X2_wordOn_27 (0 : Int32) g
  else
    (zrdR g x0 2 0).bind fun v3 =>
    (zaald 27 g v3 x1).bind fun v4 =>
    (f_J9_floorMod_7cf53 x2 v2).bind fun v5 =>
    (zald 20 g v4 v5).bind fun v6 =>
    f_X2_wordOn_27 v6 g

def f_X11_said_17   (g : ZS) : Option Int32 :=
  some (-1 : Int32)

def f_X11_said (x0 : Nat) (x1 : Int32) (x2 : Int32)  (g : ZS) : Option Int32 :=
  (f_X11_isHouse x1).bind fun v1 =>
  if v1 = 0 then
    f_X11_said_17 g
  else
    if x2 < 0 then
      f_X11_said_17 g
    else
      if x2 ≤ (99 : Int32) then
        (zrdR g x0 11 2).bind fun v2 =>
        (zrdR g x0 11 6).bind fun v3 =>
        (zrdI g v3 6 2).bind fun v4 =>
        zvs g v2 2 <| (f_X2_wordOn v2 x1 (v4 + x2) g).bind fun v5 =>
        some v5
      else
        f_X11_said_17 g

def f_X12_saidOn (x0 : Nat) (x1 : Int32) (x2 : Int32)  (g : ZS) : Option Int32 :=
  (zrdR g x0 12 4).bind fun v1 =>
  (zrdR g x0 12 5).bind fun v2 =>
  (zald 20 g v2 x1).bind fun v3 =>
  if v3 = 0 then none else
  (zald 20 g v1 (((16 : Int32) * x1) + (x2 - x2 / v3 * v3))).bind fun v4 =>
  some v4

def f_X12_said_41  (s0 : Int32) (g : ZS) : Option (Int32 × ZS) :=
  some (s0, g)

def f_X12_said_40   (g : ZS) : Option (Int32 × ZS) :=
  f_X12_said_41 (-1 : Int32) g

def f_X12_said (x0 : Nat) (x1 : Int32) (x2 : Int32)  (g : ZS) : Option (Int32 × ZS) :=
  (zwrI g x0 12 10 (0 : Int32)).bind fun g1 =>
  (f_X12_isHouse x1).bind fun v2 =>
  if v2 = 0 then
    f_X12_said_40 g1
  else
    (f_X12_in x2 (0 : Int32) (99 : Int32)).bind fun v3 =>
    if v3 = 0 then
      f_X12_said_40 g1
    else
      (zrdR g1 x0 12 0).bind fun v4 =>
      (zald 20 g1 v4 (216 : Int32)).bind fun v5 =>
      zvs g1 x0 12 <| (f_X12_saidOn x0 x1 (v5 + x2) g1).bind fun v6 =>
      f_X12_said_41 v6 g1

def f_X11_asWorth_20 (x2 : Int32)  : Option Int32 :=
  (f_J9_min_7cf53 (9 : Int32) x2).bind fun v1 =>
  (f_J9_max_7cf53 (0 : Int32) v1).bind fun v2 =>
  some v2

def f_X11_asWorth (x0 : Int32) (x1 : Int32)  : Option Int32 :=
  if x0 = 0 then
    f_X11_asWorth_20 x1.toInt8.toInt32
  else
    if x0 = (1 : Int32) then
      f_X11_asWorth_20 x1.toInt16.toInt32
    else
      f_X11_asWorth_20 x1

def f_X11_fillWorths_35 (N : Nat) (x0 : Nat) (x1 : Int32) (x2 : Int32) (x4 : Int32) (x5 : Int32) (x6 : Int32) (s0 : Nat) (s1 : Int32) (s2 : Int32) (g : ZS) : Option ((Int32 × Int32 × ZS) ⊕ ZS) :=
  (zast 20 g s0 s1 s2).bind fun g1 =>
  some (.inl (x5 + x4, x6 + (1 : Int32), g1))

def f_X11_fillWorths_6 (N : Nat) (x0 : Nat) (x1 : Int32) (x2 : Int32) (x4 : Int32) (x5 : Int32) (x6 : Int32)  (g : ZS) : Option ((Int32 × Int32 × ZS) ⊕ ZS) :=
  if (8 : Int32) ≤ x6 then
    (
      some g).map Sum.inr
  else
    (zrdR g x0 11 3).bind fun v1 =>
    if x2 ≤ x6 then
      f_X11_fillWorths_35 N x0 x1 x2 x4 x5 x6 v1 x6 (0 : Int32) g
    else
      (f_X11_asWorth x1 x5).bind fun v2 =>
      f_X11_fillWorths_35 N x0 x1 x2 x4 x5 x6 v1 x6 v2 g

def f_X11_fillWorths (N : Nat) (x0 : Nat) (x1 : Int32) (x2 : Int32) (x3 : Int32) (x4 : Int32)  (g : ZS) : Option ZS :=
  zloop (fun s => f_X11_fillWorths_6 N x0 x1 x2 x4 s.1 s.2.1 s.2.2) N (x3, (0 : Int32), g)

def f_X11_sheet_15 (N : Nat)   (g : ZS) : Option (Int32 × ZS) :=
  some ((-1 : Int32), g)

def f_X11_sheet (N : Nat) (x0 : Nat) (x1 : Int32) (x2 : Int32) (x3 : Int32) (x4 : Int32)  (g : ZS) : Option (Int32 × ZS) :=
  if x1 < 0 then
    f_X11_sheet_15 N g
  else
    if (3 : Int32) < x1 then
      f_X11_sheet_15 N g
    else
      if x2 ≤ (8 : Int32) then
        if x1 = (3 : Int32) then
          zvs g x0 11 <| (f_X11_fillWorths N x0 x1 (0 : Int32) x3 x4 g).bind fun g3 =>
          some ((-3 : Int32), g3)
        else
          if 0 ≤ x2 then
            zvs g x0 11 <| (f_X11_fillWorths N x0 x1 x2 x3 x4 g).bind fun g1 =>
            zvs g1 x0 11 <| (f_X11_sumOfWorths N x0 g1).bind fun v2 =>
            some (v2, g1)
          else
            some ((-2 : Int32), g)
      else
        f_X11_sheet_15 N g

def f_X12_sheet_20 (N : Nat)   (g : ZS) : Option (Int32 × ZS) :=
  some ((-1 : Int32), g)

def f_X12_sheet_107 (N : Nat) (x0 : Nat) (x1 : Int32) (x2 : Int32) (x4 : Int32) (x5 : Int32) (x6 : Int32) (x7 : Int32) (s0 : Nat) (s1 : Int32) (s2 : Int32) (g : ZS) : Option ((Int32 × Int32 × Int32 × ZS) ⊕ (Int32 × ZS)) :=
  (zast 20 g s0 s1 s2).bind fun g1 =>
  (zrdR g1 x0 12 3).bind fun v2 =>
  (zald 20 g1 v2 x7).bind fun v3 =>
  some (.inl (x5 + v3, x6 + x4, x7 + (1 : Int32), g1))

def f_X12_sheet_92 (N : Nat) (x0 : Nat) (x1 : Int32) (x2 : Int32) (x4 : Int32) (x5 : Int32) (x6 : Int32) (x7 : Int32) (s0 : Nat) (s1 : Int32) (g : ZS) : Option ((Int32 × Int32 × Int32 × ZS) ⊕ (Int32 × ZS)) :=
  f_X12_sheet_107 N x0 x1 x2 x4 x5 x6 x7 s0 s1 (0 : Int32) g

def f_X12_sheet_73 (N : Nat) (x0 : Nat) (x1 : Int32) (x2 : Int32) (x4 : Int32) (x5 : Int32) (x6 : Int32) (x7 : Int32) (s0 : Int32) (g : ZS) : Option ((Int32 × Int32 × Int32 × ZS) ⊕ (Int32 × ZS)) :=
  (zrdR g x0 12 3).bind fun v1 =>
  if x1 = (3 : Int32) then
    f_X12_sheet_92 N x0 x1 x2 x4 x5 x6 x7 v1 x7 g
  else
    if x7 < x2 then
      (f_J9_min_7cf53 (9 : Int32) s0).bind fun v2 =>
      (f_J9_max_7cf53 (0 : Int32) v2).bind fun v3 =>
      f_X12_sheet_107 N x0 x1 x2 x4 x5 x6 x7 v1 x7 v3 g
    else
      f_X12_sheet_92 N x0 x1 x2 x4 x5 x6 x7 v1 x7 g

def f_X12_sheet_145 (N : Nat)  (s0 : Int32) (g : ZS) : Option (Int32 × ZS) :=
  some (s0, g)

def f_X12_sheet_43 (N : Nat) (x0 : Nat) (x1 : Int32) (x2 : Int32) (x4 : Int32) (x5 : Int32) (x6 : Int32) (x7 : Int32)  (g : ZS) : Option ((Int32 × Int32 × Int32 × ZS) ⊕ (Int32 × ZS)) :=
  if (8 : Int32) ≤ x7 then
    (
      if x1 = (3 : Int32) then
        f_X12_sheet_145 N (-3 : Int32) g
      else
        f_X12_sheet_145 N x5 g).map Sum.inr
  else
    if x1 = 0 then
      f_X12_sheet_73 N x0 x1 x2 x4 x5 x6 x7 x6.toInt8.toInt32 g
    else
      if x1 = (1 : Int32) then
        f_X12_sheet_73 N x0 x1 x2 x4 x5 x6 x7 x6.toInt16.toInt32 g
      else
        f_X12_sheet_73 N x0 x1 x2 x4 x5 x6 x7 x6 g

def f_X12_sheet_34 (N : Nat) (x0 : Nat) (x1 : Int32) (x2 : Int32) (x3 : Int32) (x4 : Int32)  (g : ZS) : Option (Int32 × ZS) :=
  zloop (fun s => f_X12_sheet_43 N x0 x1 x2 x4 s.1 s.2.1 s.2.2.1 s.2.2.2) N ((0 : Int32), x3, (0 : Int32), g)

def f_X12_sheet (N : Nat) (x0 : Nat) (x1 : Int32) (x2 : Int32) (x3 : Int32) (x4 : Int32)  (g : ZS) : Option (Int32 × ZS) :=
  (zwrI g x0 12 10 (0 : Int32)).bind fun g1 =>
  (f_X12_in x1 (0 : Int32) (3 : Int32)).bind fun v2 =>
  if v2 = 0 then
    f_X12_sheet_20 N g1
  else
    if x2 ≤ (8 : Int32) then
      if (3 : Int32) ≤ x1 then
        f_X12_sheet_34 N x0 x1 x2 x3 x4 g1
      else
        if 0 ≤ x2 then
          f_X12_sheet_34 N x0 x1 x2 x3 x4 g1
        else
          some ((-2 : Int32), g1)
    else
      f_X12_sheet_20 N g1

def f_X0_take_30 (x0 : Nat) (x1 : Int32)  (g : ZS) : Option ZS :=
  (zrdR g x0 0 2).bind fun v1 =>
  (zrdI g x0 0 7).bind fun v2 =>
  (zast 20 g v1 x1 v2).bind fun g3 =>
  (zrdR g3 x0 0 0).bind fun v4 =>
  (zald 20 g3 v4 x1).bind fun v5 =>
  (zast 20 g3 v4 x1 (v5 + (1 : Int32))).bind fun g6 =>
  (zrdI g6 x0 0 7).bind fun v7 =>
  (zwrI g6 x0 0 7 (v7 + (1 : Int32))).bind fun g8 =>
  some g8

def f_X0_take (x0 : Nat) (x1 : Int32)  (g : ZS) : Option ZS :=
  (zrdI g x0 0 7).bind fun v1 =>
  if v1 < (9999 : Int32) then
    (zrdR g x0 0 0).bind fun v2 =>
    (zald 20 g v2 x1).bind fun v3 =>
    if v3 = 0 then
      (zrdR g x0 0 1).bind fun v4 =>
      (zrdI g x0 0 7).bind fun v5 =>
      (zast 20 g v4 x1 v5).bind fun g6 =>
      f_X0_take_30 x0 x1 g6
    else
      f_X0_take_30 x0 x1 g
  else
    some g

def f_X11_listenOn_23   (g : ZS) : Option ZS :=
  some g

def f_X11_listenOn (x0 : Nat) (x1 : Nat) (x2 : Int32)  (g : ZS) : Option ZS :=
  (zrdI g x1 0 6).bind fun v1 =>
  if v1 = 0 then
    (zrdR g x0 11 2).bind fun v2 =>
    (zrdI g x1 0 4).bind fun v3 =>
    zvs g v2 2 <| (f_X2_wordOn v2 v3 x2 g).bind fun v4 =>
    zvs g x1 0 <| (f_X0_take x1 v4 g).bind fun g5 =>
    f_X11_listenOn_23 g5
  else
    f_X11_listenOn_23 g

def f_X11_passDays_10 (N : Nat) (x0 : Nat) (x1 : Nat) (x2 : Int32) (x3 : Int32) (x4 : Int32)  (g : ZS) : Option ((Int32 × ZS) ⊕ ((Int32 × ZS) ⊕ (Int32 × ZS))) :=
  (zrdI g x1 6 1).bind fun v1 =>
  if v1 ≤ x4 then
    (
      (zrdI g x1 6 2).bind fun v2 =>
      (zwrI g x1 6 2 (v2 + (1 : Int32))).bind fun g3 =>
      some (.inl (x3 + (1 : Int32), g3))).map Sum.inr
  else
    (zrdR g x1 6 0).bind fun v4 =>
    (zaald 25 g v4 x4).bind fun v5 =>
    (zrdI g x1 6 2).bind fun v6 =>
    zvs g x0 11 <| (f_X11_listenOn x0 v5 v6 g).bind fun g7 =>
    some (.inl (x4 + (1 : Int32), g7))

def f_X11_passDays_2 (N : Nat) (x0 : Nat) (x1 : Nat) (x2 : Int32) (x3 : Int32)  (g : ZS) : Option ((Int32 × ZS) ⊕ (Int32 × ZS)) :=
  if x2 ≤ x3 then
    (
      (zrdI g x1 6 2).bind fun v1 =>
      some (v1, g)).map Sum.inr
  else
    zloop (fun s => f_X11_passDays_10 N x0 x1 x2 x3 s.1 s.2) N ((0 : Int32), g)

def f_X11_passDays (N : Nat) (x0 : Nat) (x1 : Nat) (x2 : Int32)  (g : ZS) : Option (Int32 × ZS) :=
  zloop (fun s => f_X11_passDays_2 N x0 x1 x2 s.1 s.2) N ((0 : Int32), g)

def f_X4_dropOldest_9 (N : Nat) (x0 : Nat) (x1 : Nat) (x2 : Int32)  (g : ZS) : Option ((Int32 × ZS) ⊕ ZS) :=
  if (12 : Int32) ≤ x2 then
    (
      (zrdR g x0 4 0).bind fun v1 =>
      (zaast 26 g v1 (11 : Int32) x1).bind fun g2 =>
      (zwrI g2 x0 4 1 (11 : Int32)).bind fun g3 =>
      some g3).map Sum.inr
  else
    (zrdR g x0 4 0).bind fun v4 =>
    (zrdR g x0 4 0).bind fun v5 =>
    (zaald 26 g v5 x2).bind fun v6 =>
    (zaast 26 g v4 (x2 - (1 : Int32)) v6).bind fun g7 =>
    some (.inl (x2 + (1 : Int32), g7))

def f_X4_dropOldest (N : Nat) (x0 : Nat)  (g : ZS) : Option ZS :=
  (zrdR g x0 4 0).bind fun v1 =>
  (zaald 26 g v1 (0 : Int32)).bind fun v2 =>
  zloop (fun s => f_X4_dropOldest_9 N x0 v2 s.1 s.2) N ((1 : Int32), g)

def f_X9_add_29   (g : ZS) : Option ZS :=
  some g

def f_X9_add (x0 : Nat) (x1 : Int64)  (g : ZS) : Option ZS :=
  (zrdI g x0 9 1).bind fun v1 =>
  if (8 : Int32) ≤ v1 then
    f_X9_add_29 g
  else
    (zrdR g x0 9 0).bind fun v2 =>
    (zrdI g x0 9 1).bind fun v3 =>
    (zlast g v2 v3 x1).bind fun g4 =>
    (zrdI g4 x0 9 1).bind fun v5 =>
    (zwrI g4 x0 9 1 (v5 + (1 : Int32))).bind fun g6 =>
    f_X9_add_29 g6

def f_X12_lay_2 (N : Nat) (x0 : Nat) (x1 : Nat) (x2 : Int32) (x3 : Int32)  (g : ZS) : Option ((Int32 × ZS) ⊕ ZS) :=
  if (217 : Int32) ≤ x3 then
    (
      some g).map Sum.inr
  else
    (zald 20 g x0 x3).bind fun v1 =>
    (zast 20 g x1 (x2 + x3) v1).bind fun g2 =>
    some (.inl (x3 + (1 : Int32), g2))

def f_X12_lay (N : Nat) (x0 : Nat) (x1 : Nat) (x2 : Int32)  (g : ZS) : Option ZS :=
  zloop (fun s => f_X12_lay_2 N x0 x1 x2 s.1 s.2) N ((0 : Int32), g)

def f_X12_remember_50 (N : Nat) (x0 : Nat) (x1 : Nat)  (g : ZS) : Option ZS :=
  (zrdR g x0 12 25).bind fun v1 =>
  (zrdI g x0 12 26).bind fun v2 =>
  (f_X12_lay N x1 v1 ((217 : Int32) * v2) g).bind fun g3 =>
  (zrdI g3 x0 12 26).bind fun v4 =>
  (zwrI g3 x0 12 26 (v4 + (1 : Int32))).bind fun g5 =>
  some g5

def f_X12_remember_11 (N : Nat) (x0 : Nat) (x1 : Nat) (x2 : Int32)  (g : ZS) : Option ((Int32 × ZS) ⊕ ZS) :=
  if (2387 : Int32) ≤ x2 then
    (
      (zrdI g x0 12 26).bind fun v1 =>
      (zwrI g x0 12 26 (v1 - (1 : Int32))).bind fun g2 =>
      f_X12_remember_50 N x0 x1 g2).map Sum.inr
  else
    (zrdR g x0 12 25).bind fun v3 =>
    (zrdR g x0 12 25).bind fun v4 =>
    (zald 20 g v4 (x2 + (217 : Int32))).bind fun v5 =>
    (zast 20 g v3 x2 v5).bind fun g6 =>
    some (.inl (x2 + (1 : Int32), g6))

def f_X12_remember (N : Nat) (x0 : Nat) (x1 : Nat)  (g : ZS) : Option ZS :=
  (zrdI g x0 12 26).bind fun v1 =>
  if v1 = (12 : Int32) then
    zloop (fun s => f_X12_remember_11 N x0 x1 s.1 s.2) N ((0 : Int32), g)
  else
    f_X12_remember_50 N x0 x1 g

def f_X12_hears_36 (x0 : Nat) (x1 : Int32) (x2 : Int32) (x3 : Int32)  (g : ZS) : Option ZS :=
  (f_X12_of x1 ((20 : Int32) + x2)).bind fun v1 =>
  (zast 20 g x0 v1 x3).bind fun g2 =>
  (f_X12_of x1 ((4 : Int32) + x2)).bind fun v3 =>
  (zald 20 g2 x0 v3).bind fun v4 =>
  (zast 20 g2 x0 v3 (v4 + (1 : Int32))).bind fun g5 =>
  (f_X12_of x1 (2 : Int32)).bind fun v6 =>
  (zald 20 g5 x0 v6).bind fun v7 =>
  (zast 20 g5 x0 v6 (v7 + (1 : Int32))).bind fun g8 =>
  some g8

def f_X12_hears (x0 : Nat) (x1 : Int32) (x2 : Int32)  (g : ZS) : Option ZS :=
  (f_X12_of x1 (2 : Int32)).bind fun v1 =>
  (zald 20 g x0 v1).bind fun v2 =>
  if v2 = (9999 : Int32) then
    some g
  else
    (f_X12_hasHeard x0 x1 x2 g).bind fun v3 =>
    if v3 = 0 then
      (f_X12_of x1 ((12 : Int32) + x2)).bind fun v4 =>
      (zast 20 g x0 v4 v2).bind fun g5 =>
      f_X12_hears_36 x0 x1 x2 v2 g5
    else
      f_X12_hears_36 x0 x1 x2 v2 g

def f_X12_goDays_53 (N : Nat) (x0 : Nat) (x1 : Nat) (x2 : Int32) (x3 : Int32) (x4 : Int32)  (g : ZS) : Option ((Int32 × ZS) ⊕ ((Int32 × ZS) ⊕ ZS)) :=
  some (.inl (x4 + (1 : Int32), g))

def f_X12_goDays_10 (N : Nat) (x0 : Nat) (x1 : Nat) (x2 : Int32) (x3 : Int32) (x4 : Int32)  (g : ZS) : Option ((Int32 × ZS) ⊕ ((Int32 × ZS) ⊕ ZS)) :=
  (zrdI g x0 12 1).bind fun v1 =>
  if v1 ≤ x4 then
    (
      (zald 20 g x1 (216 : Int32)).bind fun v2 =>
      (zast 20 g x1 (216 : Int32) (v2 + (1 : Int32))).bind fun g3 =>
      some (.inl (x3 + (1 : Int32), g3))).map Sum.inr
  else
    (f_X12_of x4 (1 : Int32)).bind fun v4 =>
    (zald 20 g x1 v4).bind fun v5 =>
    if v5 = 0 then
      (f_X12_of x4 (0 : Int32)).bind fun v6 =>
      (zald 20 g x1 v6).bind fun v7 =>
      (zald 20 g x1 (216 : Int32)).bind fun v8 =>
      zvs g x0 12 <| (f_X12_saidOn x0 v7 v8 g).bind fun v9 =>
      (f_X12_hears x1 x4 v9 g).bind fun g10 =>
      f_X12_goDays_53 N x0 x1 x2 x3 x4 g10
    else
      f_X12_goDays_53 N x0 x1 x2 x3 x4 g

def f_X12_goDays_2 (N : Nat) (x0 : Nat) (x1 : Nat) (x2 : Int32) (x3 : Int32)  (g : ZS) : Option ((Int32 × ZS) ⊕ ZS) :=
  if x2 ≤ x3 then
    (
      some g).map Sum.inr
  else
    zloop (fun s => f_X12_goDays_10 N x0 x1 x2 x3 s.1 s.2) N ((0 : Int32), g)

def f_X12_goDays (N : Nat) (x0 : Nat) (x1 : Nat) (x2 : Int32)  (g : ZS) : Option ZS :=
  zloop (fun s => f_X12_goDays_2 N x0 x1 x2 s.1 s.2) N ((0 : Int32), g)

def f_X12_tell (x0 : Nat) (x1 : Int64)  (g : ZS) : Option ZS :=
  (zrdR g x0 12 8).bind fun v1 =>
  (zrdI g x0 12 9).bind fun v2 =>
  (zlast g v1 v2 x1).bind fun g3 =>
  (zrdI g3 x0 12 9).bind fun v4 =>
  (zwrI g3 x0 12 9 (v4 + (1 : Int32))).bind fun g5 =>
  some g5

def f_X12_days_57 (N : Nat) (x0 : Nat) (x2 : Int32)  (g : ZS) : Option ((Int32 × ZS) ⊕ (Int32 × ZS)) :=
  (zrdI g x0 12 1).bind fun v1 =>
  if v1 ≤ x2 then
    (
      (zrdR g x0 12 0).bind fun v2 =>
      (zald 20 g v2 (216 : Int32)).bind fun v3 =>
      some (v3, g)).map Sum.inr
  else
    (zrdR g x0 12 0).bind fun v4 =>
    (f_X12_heardBits N v4 x2 g).bind fun v5 =>
    (zrdR g x0 12 27).bind fun v6 =>
    (f_X12_heardBits N v6 x2 g).bind fun v7 =>
    (f_J6_bitCount_0f7a4 (v5 &&& (v7 ^^^ (-1 : Int32)))).bind fun v8 =>
    zvs g x0 12 <| (f_X12_tell x0 v8.toInt64 g).bind fun g9 =>
    some (.inl (x2 + (1 : Int32), g9))

def f_X12_days_41 (N : Nat) (x0 : Nat) (x1 : Int32)  (g : ZS) : Option (Int32 × ZS) :=
  (zrdR g x0 12 0).bind fun v1 =>
  zvs g x0 12 <| (f_X12_goDays N x0 v1 x1 g).bind fun g2 =>
  (zwrI g2 x0 12 9 (0 : Int32)).bind fun g3 =>
  zloop (fun s => f_X12_days_57 N x0 s.1 s.2) N ((0 : Int32), g3)

def f_X12_days (N : Nat) (x0 : Nat) (x1 : Int32)  (g : ZS) : Option (Int32 × ZS) :=
  (zwrI g x0 12 10 (0 : Int32)).bind fun g1 =>
  (f_X12_in x1 (0 : Int32) (60 : Int32)).bind fun v2 =>
  if v2 = 0 then
    some ((-1 : Int32), g1)
  else
    (zrdR g1 x0 12 0).bind fun v3 =>
    (zrdR g1 x0 12 27).bind fun v4 =>
    (f_X12_lay N v3 v4 (0 : Int32) g1).bind fun g5 =>
    if x1 ≤ 0 then
      f_X12_days_41 N x0 x1 g5
    else
      (zrdR g5 x0 12 0).bind fun v6 =>
      zvs g5 x0 12 <| (f_X12_remember N x0 v6 g5).bind fun g7 =>
      f_X12_days_41 N x0 x1 g7

def f_X11_bring_15   (g : ZS) : Option (Int32 × ZS) :=
  some ((-1 : Int32), g)

def f_X11_bring (x0 : Nat) (x1 : Int32) (x2 : Int32)  (g : ZS) : Option (Int32 × ZS) :=
  zvs g x0 6 <| (f_X6_isIn x0 x1 g).bind fun v1 =>
  if v1 = 0 then
    f_X11_bring_15 g
  else
    (f_X11_isHouse x2).bind fun v2 =>
    if v2 = 0 then
      f_X11_bring_15 g
    else
      (zrdR g x0 6 0).bind fun v3 =>
      (zaald 25 g v3 x1).bind fun v4 =>
      (zrdI g v4 0 4).bind fun v5 =>
      if v5 = x2 then
        some ((-2 : Int32), g)
      else
        (zwrI g v4 0 4 x2).bind fun g6 =>
        some (v5, g6)

def f_X12_refusesMove_15   (g : ZS) : Option Int32 :=
  some (-1 : Int32)

def f_X12_refusesMove_37  (s0 : Int32) (g : ZS) : Option Int32 :=
  some s0

def f_X12_refusesMove (x0 : Nat) (x1 : Int32) (x2 : Int32)  (g : ZS) : Option Int32 :=
  zvs g x0 12 <| (f_X12_isParrot x0 x1 g).bind fun v1 =>
  if v1 = 0 then
    f_X12_refusesMove_15 g
  else
    (f_X12_isHouse x2).bind fun v2 =>
    if v2 = 0 then
      f_X12_refusesMove_15 g
    else
      (zrdR g x0 12 0).bind fun v3 =>
      (f_X12_of x1 (0 : Int32)).bind fun v4 =>
      (zald 20 g v3 v4).bind fun v5 =>
      if v5 = x2 then
        f_X12_refusesMove_37 (-2 : Int32) g
      else
        f_X12_refusesMove_37 (0 : Int32) g

def f_X12_move (N : Nat) (x0 : Nat) (x1 : Int32) (x2 : Int32)  (g : ZS) : Option (Int32 × ZS) :=
  (zwrI g x0 12 10 (0 : Int32)).bind fun g1 =>
  zvs g1 x0 12 <| (f_X12_refusesMove x0 x1 x2 g1).bind fun v2 =>
  if 0 ≤ v2 then
    (zrdR g1 x0 12 0).bind fun v3 =>
    zvs g1 x0 12 <| (f_X12_remember N x0 v3 g1).bind fun g4 =>
    (zrdR g4 x0 12 0).bind fun v5 =>
    (f_X12_of x1 (0 : Int32)).bind fun v6 =>
    (zald 20 g4 v5 v6).bind fun v7 =>
    (zrdR g4 x0 12 0).bind fun v8 =>
    (f_X12_of x1 (0 : Int32)).bind fun v9 =>
    (zast 20 g4 v8 v9 x2).bind fun g10 =>
    some (v7, g10)
  else
    some (v2, g1)

def f_X6_covered_32 (N : Nat) (x0 : Nat) (x2 : Int32) (s0 : Int32) (s1 : Int32) (g : ZS) : Option ((Int32 × Int32) ⊕ Int32) :=
  some (.inl (s0 ||| s1, x2 + (1 : Int32)))

def f_X6_covered_4 (N : Nat) (x0 : Nat) (x1 : Int32) (x2 : Int32)  (g : ZS) : Option ((Int32 × Int32) ⊕ Int32) :=
  (zrdI g x0 6 1).bind fun v1 =>
  if v1 ≤ x2 then
    (
      some x1).map Sum.inr
  else
    (zrdR g x0 6 0).bind fun v2 =>
    (zaald 25 g v2 x2).bind fun v3 =>
    (zrdI g v3 0 6).bind fun v4 =>
    if v4 = 0 then
      f_X6_covered_32 N x0 x2 x1 (0 : Int32) g
    else
      f_X6_covered_32 N x0 x2 x1 ((1 : Int32) <<< (x2 &&& 31)) g

def f_X6_covered (N : Nat) (x0 : Nat)  (g : ZS) : Option Int32 :=
  zloop (fun s => f_X6_covered_4 N x0 s.1 s.2 g) N ((0 : Int32), (0 : Int32))

def f_X11_cover_33 (N : Nat) (x0 : Nat) (s0 : Nat) (s1 : Int32) (g : ZS) : Option (Int32 × ZS) :=
  (zwrZ g s0 0 6 s1).bind fun g1 =>
  (zrdR g1 x0 11 6).bind fun v2 =>
  zvs g1 v2 6 <| (f_X6_covered N v2 g1).bind fun v3 =>
  (f_J6_bitCount_0f7a4 v3).bind fun v4 =>
  some (v4, g1)

def f_X11_cover (N : Nat) (x0 : Nat) (x1 : Int32)  (g : ZS) : Option (Int32 × ZS) :=
  zvs g x0 11 <| (f_X11_isParrot x0 x1 g).bind fun v1 =>
  if v1 = 0 then
    some ((-1 : Int32), g)
  else
    (zrdR g x0 11 6).bind fun v2 =>
    (zrdR g v2 6 0).bind fun v3 =>
    (zaald 25 g v3 x1).bind fun v4 =>
    (zrdI g v4 0 6).bind fun v5 =>
    if v5 = 0 then
      f_X11_cover_33 N x0 v4 (1 : Int32) g
    else
      f_X11_cover_33 N x0 v4 (0 : Int32) g

def f_X12_cloths_4 (N : Nat) (x0 : Nat) (x1 : Int32) (x2 : Int32)  (g : ZS) : Option ((Int32 × Int32) ⊕ Int32) :=
  (zrdI g x0 12 1).bind fun v1 =>
  if v1 ≤ x2 then
    (
      some x1).map Sum.inr
  else
    (zrdR g x0 12 0).bind fun v2 =>
    (f_X12_of x2 (1 : Int32)).bind fun v3 =>
    (zald 20 g v2 v3).bind fun v4 =>
    some (.inl (x1 ||| (v4 <<< (x2 &&& 31)), x2 + (1 : Int32)))

def f_X12_cloths (N : Nat) (x0 : Nat)  (g : ZS) : Option Int32 :=
  zloop (fun s => f_X12_cloths_4 N x0 s.1 s.2 g) N ((0 : Int32), (0 : Int32))

def f_X12_cloth (N : Nat) (x0 : Nat) (x1 : Int32)  (g : ZS) : Option (Int32 × ZS) :=
  (zwrI g x0 12 10 (0 : Int32)).bind fun g1 =>
  zvs g1 x0 12 <| (f_X12_isParrot x0 x1 g1).bind fun v2 =>
  if v2 = 0 then
    some ((-1 : Int32), g1)
  else
    (zrdR g1 x0 12 0).bind fun v3 =>
    zvs g1 x0 12 <| (f_X12_remember N x0 v3 g1).bind fun g4 =>
    (zrdR g4 x0 12 0).bind fun v5 =>
    (f_X12_of x1 (1 : Int32)).bind fun v6 =>
    (zrdR g4 x0 12 0).bind fun v7 =>
    (f_X12_of x1 (1 : Int32)).bind fun v8 =>
    (zald 20 g4 v7 v8).bind fun v9 =>
    (zast 20 g4 v5 v6 ((1 : Int32) - v9)).bind fun g10 =>
    zvs g10 x0 12 <| (f_X12_cloths N x0 g10).bind fun v11 =>
    (f_J6_bitCount_0f7a4 v11).bind fun v12 =>
    some (v12, g10)

def f_X11_feed_15   (g : ZS) : Option (Int32 × ZS) :=
  some ((-1 : Int32), g)

def f_X11_feed (x0 : Nat) (x1 : Int32) (x2 : Int32)  (g : ZS) : Option (Int32 × ZS) :=
  zvs g x0 6 <| (f_X6_isIn x0 x1 g).bind fun v1 =>
  if v1 = 0 then
    f_X11_feed_15 g
  else
    (f_X11_isWord x2).bind fun v2 =>
    if v2 = 0 then
      f_X11_feed_15 g
    else
      (zrdR g x0 6 0).bind fun v3 =>
      (zaald 25 g v3 x1).bind fun v4 =>
      (zrdR g v4 0 0).bind fun v5 =>
      (zald 20 g v5 x2).bind fun v6 =>
      if v6 = 0 then
        some ((-2 : Int32), g)
      else
        (zrdR g v4 0 3).bind fun v7 =>
        (zrdR g v4 0 3).bind fun v8 =>
        (zald 20 g v8 x2).bind fun v9 =>
        (f_J9_min_7cf53 (99 : Int32) (v9 + (1 : Int32))).bind fun v10 =>
        (zast 20 g v7 x2 v10).bind fun g11 =>
        (zrdR g11 v4 0 3).bind fun v12 =>
        (zald 20 g11 v12 x2).bind fun v13 =>
        some (v13, g11)

theorem j_X5_fondness_180 {X : ZX} (N : Nat) (x0 : Nat) (x1 : Nat) (x2 : Int32) (x3 : Int32) (x4 : Int32) (x5 : Int32)   (g : ZS) {K : ((Int32 × Int32 × ZS) ⊕ (Int32 × ZS)) → Prop} (h0 : ∀ v g, K (.inr (v, g)) → xK X (some (.int v)) g) (hL38 : ∀ s, K (.inl s) → zG Y_X5_fondness X 0 0 38 [some (.ref x0), some (.ref x1), some (.int x2), some (.int x3), some (.int s.1), some (.int s.2.1), none] [] s.2.2) : J Y_X5_fondness X 0 0 180 [some (.ref x0), some (.ref x1), some (.int x2), some (.int x3), some (.int x4), some (.int x5), none] [] g (f_X5_fondness_180 N x0 x1 x2 x3 x4 x5 g) K := by
  unfold f_X5_fondness_180
  refine J_iinc (1 : Int32) [some (.ref x0), some (.ref x1), some (.int x2), some (.int x3), some (.int x4), some (.int (x5 + (1 : Int32))), none] (show Dc Y_X5_fondness 180 (.iinc 5 1) 3 183 from ⟨by decide +kernel, rfl⟩) rfl rfl (by decide) rfl rfl ?_
  refine J_goto (tg := 38) (show Dc Y_X5_fondness 183 (.goto (-145)) 3 186 from ⟨by decide +kernel, rfl⟩) (by decide) ?_
  exact J_leaf (fun h => hL38 (x4, x5 + (1 : Int32), g) h)

theorem j_X5_fondness_95 {X : ZX} (N : Nat) (x0 : Nat) (x1 : Nat) (x2 : Int32) (x3 : Int32) (x4 : Int32) (x5 : Int32) (s0 : Nat) (s1 : Int32) (s2 : Int32)  (g : ZS) {K : ((Int32 × Int32 × ZS) ⊕ (Int32 × ZS)) → Prop} (h0 : ∀ v g, K (.inr (v, g)) → xK X (some (.int v)) g) (hL38 : ∀ s, K (.inl s) → zG Y_X5_fondness X 0 0 38 [some (.ref x0), some (.ref x1), some (.int x2), some (.int x3), some (.int s.1), some (.int s.2.1), none] [] s.2.2) : J Y_X5_fondness X 0 0 95 [some (.ref x0), some (.ref x1), some (.int x2), some (.int x3), some (.int x4), some (.int x5), none] [.int s2, .int s1, .ref s0] g (f_X5_fondness_95 N x0 x1 x2 x3 x4 x5 s0 s1 s2 g) K := by
  unfold f_X5_fondness_95
  refine J_iast (show Dc Y_X5_fondness 95 (.iastore) 1 96 from ⟨by decide +kernel, rfl⟩) (fun g1 => ?_)
  refine J_iinc (1 : Int32) [some (.ref x0), some (.ref x1), some (.int x2), some (.int x3), some (.int (x4 + (1 : Int32))), some (.int x5), none] (show Dc Y_X5_fondness 96 (.iinc 4 1) 3 99 from ⟨by decide +kernel, rfl⟩) rfl rfl (by decide) rfl rfl ?_
  refine J_goto (tg := 180) (show Dc Y_X5_fondness 99 (.goto 81) 3 102 from ⟨by decide +kernel, rfl⟩) (by decide) ?_
  exact j_X5_fondness_180 N x0 x1 x2 x3 (x4 + (1 : Int32)) x5 g1 h0 hL38

theorem j_X5_fondness_137 {X : ZX} (N : Nat) (x0 : Nat) (x1 : Nat) (x2 : Int32) (x3 : Int32) (x4 : Int32) (x5 : Int32) (x6 : Int32)   (g : ZS) {K : ((Int32 × Int32 × ZS) ⊕ (Int32 × ZS)) → Prop} (h0 : ∀ v g, K (.inr (v, g)) → xK X (some (.int v)) g) (hL38 : ∀ s, K (.inl s) → zG Y_X5_fondness X 0 0 38 [some (.ref x0), some (.ref x1), some (.int x2), some (.int x3), some (.int s.1), some (.int s.2.1), none] [] s.2.2) : J Y_X5_fondness X 0 0 137 [some (.ref x0), some (.ref x1), some (.int x2), some (.int x3), some (.int x4), some (.int x5), some (.int x6)] [] g (f_X5_fondness_137 N x0 x1 x2 x3 x4 x5 x6 g) K := by
  unfold f_X5_fondness_137
  refine J_iload rfl (show Dc Y_X5_fondness 137 (.iload 4) 2 139 from ⟨by decide +kernel, rfl⟩) ?_
  refine J_iconst (1 : Int32) rfl (show Dc Y_X5_fondness 139 (.iconst 1) 1 140 from ⟨by decide +kernel, rfl⟩) ?_
  refine J_icmp_le (tg := 180) (show Dc Y_X5_fondness 140 (.if_icmp .le 40) 3 143 from ⟨by decide +kernel, rfl⟩) (by decide) (fun h => ?_) (fun h => ?_)
  · refine J_mask [true, true, true, true, true, true, false] ?_
    exact j_X5_fondness_180 N x0 x1 x2 x3 x4 x5 g h0 hL38
  · refine J_iinc (-1 : Int32) [some (.ref x0), some (.ref x1), some (.int x2), some (.int x3), some (.int (x4 + (-1 : Int32))), some (.int x5), some (.int x6)] (show Dc Y_X5_fondness 143 (.iinc 4 (-1)) 3 146 from ⟨by decide +kernel, rfl⟩) rfl rfl (by decide) rfl rfl ?_
    refine J_aload_n rfl rfl (show Dc Y_X5_fondness 146 (.aload_n 0) 1 147 from ⟨by decide +kernel, rfl⟩) ?_
    refine J_getR (show Dc Y_X5_fondness 147 (.getfield 15) 3 150 from ⟨by decide +kernel, rfl⟩) w_f_RX5_15 rfl (fun v1 => ?_)
    refine J_iload rfl (show Dc Y_X5_fondness 150 (.iload 4) 2 152 from ⟨by decide +kernel, rfl⟩) ?_
    refine J_iconst (1 : Int32) rfl (show Dc Y_X5_fondness 152 (.iconst 1) 1 153 from ⟨by decide +kernel, rfl⟩) ?_
    refine J_isub (show Dc Y_X5_fondness 153 (.isub) 1 154 from ⟨by decide +kernel, rfl⟩) ?_
    refine J_iload rfl (show Dc Y_X5_fondness 154 (.iload 6) 2 156 from ⟨by decide +kernel, rfl⟩) ?_
    refine J_sipush (2000 : Int32) rfl (show Dc Y_X5_fondness 156 (.sipush 2000) 3 159 from ⟨by decide +kernel, rfl⟩) ?_
    refine J_isub (show Dc Y_X5_fondness 159 (.isub) 1 160 from ⟨by decide +kernel, rfl⟩) ?_
    refine J_aload_n rfl rfl (show Dc Y_X5_fondness 160 (.aload_n 0) 1 161 from ⟨by decide +kernel, rfl⟩) ?_
    refine J_getR (show Dc Y_X5_fondness 161 (.getfield 15) 3 164 from ⟨by decide +kernel, rfl⟩) w_f_RX5_15 rfl (fun v2 => ?_)
    refine J_iload rfl (show Dc Y_X5_fondness 164 (.iload 4) 2 166 from ⟨by decide +kernel, rfl⟩) ?_
    refine J_iconst (1 : Int32) rfl (show Dc Y_X5_fondness 166 (.iconst 1) 1 167 from ⟨by decide +kernel, rfl⟩) ?_
    refine J_isub (show Dc Y_X5_fondness 167 (.isub) 1 168 from ⟨by decide +kernel, rfl⟩) ?_
    refine J_iald (show Dc Y_X5_fondness 168 (.iaload) 1 169 from ⟨by decide +kernel, rfl⟩) (fun v3 => ?_)
    refine J_aload_n rfl rfl (show Dc Y_X5_fondness 169 (.aload_n 0) 1 170 from ⟨by decide +kernel, rfl⟩) ?_
    refine J_getR (show Dc Y_X5_fondness 170 (.getfield 15) 3 173 from ⟨by decide +kernel, rfl⟩) w_f_RX5_15 rfl (fun v4 => ?_)
    refine J_iload rfl (show Dc Y_X5_fondness 173 (.iload 4) 2 175 from ⟨by decide +kernel, rfl⟩) ?_
    refine J_iald (show Dc Y_X5_fondness 175 (.iaload) 1 176 from ⟨by decide +kernel, rfl⟩) (fun v5 => ?_)
    refine J_callSi (fun r => r) (fun _ => g) (show Dc Y_X5_fondness 176 (.invokestatic 103) 3 179 from ⟨by decide +kernel, rfl⟩) w_m_RX5_103 w_st_X5_join w_cw_X5_join (c_X5_join (x6 - (2000 : Int32)) v3 v5 g) rfl rfl (by decide) (Nat.le_of_ble_eq_true rfl) (by decide) (by decide) (fun v6 => ?_)
    refine J_iast (show Dc Y_X5_fondness 179 (.iastore) 1 180 from ⟨by decide +kernel, rfl⟩) (fun g7 => ?_)
    refine J_mask [true, true, true, true, true, true, false] ?_
    exact j_X5_fondness_180 N x0 x1 x2 x3 (x4 + (-1 : Int32)) x5 g7 h0 hL38

theorem j_X5_fondness_38 {X : ZX} (N : Nat) (x0 : Nat) (x1 : Nat) (x2 : Int32) (x3 : Int32) (x4 : Int32) (x5 : Int32)   (g : ZS) {K : ((Int32 × Int32 × ZS) ⊕ (Int32 × ZS)) → Prop} (h0 : ∀ v g, K (.inr (v, g)) → xK X (some (.int v)) g) (hL38 : ∀ s, K (.inl s) → zG Y_X5_fondness X 0 0 38 [some (.ref x0), some (.ref x1), some (.int x2), some (.int x3), some (.int s.1), some (.int s.2.1), none] [] s.2.2) : J Y_X5_fondness X 0 0 38 [some (.ref x0), some (.ref x1), some (.int x2), some (.int x3), some (.int x4), some (.int x5), none] [] g (f_X5_fondness_38 N x0 x1 x2 x3 x4 x5 g) K := by
  unfold f_X5_fondness_38
  refine J_iload rfl (show Dc Y_X5_fondness 38 (.iload 5) 2 40 from ⟨by decide +kernel, rfl⟩) ?_
  refine J_aload_n rfl rfl (show Dc Y_X5_fondness 40 (.aload_n 0) 1 41 from ⟨by decide +kernel, rfl⟩) ?_
  refine J_getI (show Dc Y_X5_fondness 41 (.getfield 25) 3 44 from ⟨by decide +kernel, rfl⟩) w_f_RX5_25 rfl (fun v1 => ?_)
  refine J_icmp_ge (tg := 186) (show Dc Y_X5_fondness 44 (.if_icmp .ge 142) 3 47 from ⟨by decide +kernel, rfl⟩) (by decide) (fun h => ?_) (fun h => ?_)
  · refine J_map (f := Sum.inr) (fun _ h => h) ?_
    refine J_aload_n rfl rfl (show Dc Y_X5_fondness 186 (.aload_n 0) 1 187 from ⟨by decide +kernel, rfl⟩) ?_
    refine J_getR (show Dc Y_X5_fondness 187 (.getfield 15) 3 190 from ⟨by decide +kernel, rfl⟩) w_f_RX5_15 rfl (fun v2 => ?_)
    refine J_iconst (0 : Int32) rfl (show Dc Y_X5_fondness 190 (.iconst 0) 1 191 from ⟨by decide +kernel, rfl⟩) ?_
    refine J_iald (show Dc Y_X5_fondness 191 (.iaload) 1 192 from ⟨by decide +kernel, rfl⟩) (fun v3 => ?_)
    exact J_reti (show Dc Y_X5_fondness 192 (.ireturn) 1 193 from ⟨by decide +kernel, rfl⟩) rfl (h0 _ _) (by decide) (by decide)
  · refine J_aload_n rfl rfl (show Dc Y_X5_fondness 47 (.aload_n 0) 1 48 from ⟨by decide +kernel, rfl⟩) ?_
    refine J_getR (show Dc Y_X5_fondness 48 (.getfield 9) 3 51 from ⟨by decide +kernel, rfl⟩) w_f_RX5_9 rfl (fun v4 => ?_)
    refine J_iload rfl (show Dc Y_X5_fondness 51 (.iload 5) 2 53 from ⟨by decide +kernel, rfl⟩) ?_
    refine J_iald (show Dc Y_X5_fondness 53 (.iaload) 1 54 from ⟨by decide +kernel, rfl⟩) (fun v5 => ?_)
    refine J_istore [some (.ref x0), some (.ref x1), some (.int x2), some (.int x3), some (.int x4), some (.int x5), some (.int v5)] (show Dc Y_X5_fondness 54 (.istore 6) 2 56 from ⟨by decide +kernel, rfl⟩) (by decide) rfl rfl ?_
    refine J_iload rfl (show Dc Y_X5_fondness 56 (.iload 6) 2 58 from ⟨by decide +kernel, rfl⟩) ?_
    refine J_sipush (2000 : Int32) rfl (show Dc Y_X5_fondness 58 (.sipush 2000) 3 61 from ⟨by decide +kernel, rfl⟩) ?_
    refine J_icmp_ge (tg := 102) (show Dc Y_X5_fondness 61 (.if_icmp .ge 41) 3 64 from ⟨by decide +kernel, rfl⟩) (by decide) (fun h => ?_) (fun h => ?_)
    · refine J_iload rfl (show Dc Y_X5_fondness 102 (.iload 6) 2 104 from ⟨by decide +kernel, rfl⟩) ?_
      refine J_sipush (2256 : Int32) rfl (show Dc Y_X5_fondness 104 (.sipush 2256) 3 107 from ⟨by decide +kernel, rfl⟩) ?_
      refine J_icmp_ne (tg := 137) (show Dc Y_X5_fondness 107 (.if_icmp .ne 30) 3 110 from ⟨by decide +kernel, rfl⟩) (by decide) (fun h => ?_) (fun h => ?_)
      · exact j_X5_fondness_137 N x0 x1 x2 x3 x4 x5 v5 g h0 hL38
      · refine J_iload rfl (show Dc Y_X5_fondness 110 (.iload 4) 2 112 from ⟨by decide +kernel, rfl⟩) ?_
        refine J_if_le (tg := 137) (show Dc Y_X5_fondness 112 (.ifCond .le 25) 3 115 from ⟨by decide +kernel, rfl⟩) (by decide) (fun h => ?_) (fun h => ?_)
        · exact j_X5_fondness_137 N x0 x1 x2 x3 x4 x5 v5 g h0 hL38
        · refine J_aload_n rfl rfl (show Dc Y_X5_fondness 115 (.aload_n 0) 1 116 from ⟨by decide +kernel, rfl⟩) ?_
          refine J_getR (show Dc Y_X5_fondness 116 (.getfield 15) 3 119 from ⟨by decide +kernel, rfl⟩) w_f_RX5_15 rfl (fun v6 => ?_)
          refine J_iload rfl (show Dc Y_X5_fondness 119 (.iload 4) 2 121 from ⟨by decide +kernel, rfl⟩) ?_
          refine J_iconst (1 : Int32) rfl (show Dc Y_X5_fondness 121 (.iconst 1) 1 122 from ⟨by decide +kernel, rfl⟩) ?_
          refine J_isub (show Dc Y_X5_fondness 122 (.isub) 1 123 from ⟨by decide +kernel, rfl⟩) ?_
          refine J_aload_n rfl rfl (show Dc Y_X5_fondness 123 (.aload_n 0) 1 124 from ⟨by decide +kernel, rfl⟩) ?_
          refine J_getR (show Dc Y_X5_fondness 124 (.getfield 15) 3 127 from ⟨by decide +kernel, rfl⟩) w_f_RX5_15 rfl (fun v7 => ?_)
          refine J_iload rfl (show Dc Y_X5_fondness 127 (.iload 4) 2 129 from ⟨by decide +kernel, rfl⟩) ?_
          refine J_iconst (1 : Int32) rfl (show Dc Y_X5_fondness 129 (.iconst 1) 1 130 from ⟨by decide +kernel, rfl⟩) ?_
          refine J_isub (show Dc Y_X5_fondness 130 (.isub) 1 131 from ⟨by decide +kernel, rfl⟩) ?_
          refine J_iald (show Dc Y_X5_fondness 131 (.iaload) 1 132 from ⟨by decide +kernel, rfl⟩) (fun v8 => ?_)
          refine J_ineg (show Dc Y_X5_fondness 132 (.ineg) 1 133 from ⟨by decide +kernel, rfl⟩) ?_
          refine J_iast (show Dc Y_X5_fondness 133 (.iastore) 1 134 from ⟨by decide +kernel, rfl⟩) (fun g9 => ?_)
          refine J_goto (tg := 180) (show Dc Y_X5_fondness 134 (.goto 46) 3 137 from ⟨by decide +kernel, rfl⟩) (by decide) ?_
          refine J_mask [true, true, true, true, true, true, false] ?_
          exact j_X5_fondness_180 N x0 x1 x2 x3 x4 x5 g9 h0 hL38
    · refine J_aload_n rfl rfl (show Dc Y_X5_fondness 64 (.aload_n 0) 1 65 from ⟨by decide +kernel, rfl⟩) ?_
      refine J_getR (show Dc Y_X5_fondness 65 (.getfield 15) 3 68 from ⟨by decide +kernel, rfl⟩) w_f_RX5_15 rfl (fun v10 => ?_)
      refine J_iload rfl (show Dc Y_X5_fondness 68 (.iload 4) 2 70 from ⟨by decide +kernel, rfl⟩) ?_
      refine J_iload rfl (show Dc Y_X5_fondness 70 (.iload 6) 2 72 from ⟨by decide +kernel, rfl⟩) ?_
      refine J_sipush (1000 : Int32) rfl (show Dc Y_X5_fondness 72 (.sipush 1000) 3 75 from ⟨by decide +kernel, rfl⟩) ?_
      refine J_icmp_ge (tg := 83) (show Dc Y_X5_fondness 75 (.if_icmp .ge 8) 3 78 from ⟨by decide +kernel, rfl⟩) (by decide) (fun h => ?_) (fun h => ?_)
      · refine J_iload rfl (show Dc Y_X5_fondness 83 (.iload 6) 2 85 from ⟨by decide +kernel, rfl⟩) ?_
        refine J_sipush (1000 : Int32) rfl (show Dc Y_X5_fondness 85 (.sipush 1000) 3 88 from ⟨by decide +kernel, rfl⟩) ?_
        refine J_isub (show Dc Y_X5_fondness 88 (.isub) 1 89 from ⟨by decide +kernel, rfl⟩) ?_
        refine J_aload_n rfl rfl (show Dc Y_X5_fondness 89 (.aload_n 1) 1 90 from ⟨by decide +kernel, rfl⟩) ?_
        refine J_iload_n rfl rfl (show Dc Y_X5_fondness 90 (.iload_n 2) 1 91 from ⟨by decide +kernel, rfl⟩) ?_
        refine J_iload_n rfl rfl (show Dc Y_X5_fondness 91 (.iload_n 3) 1 92 from ⟨by decide +kernel, rfl⟩) ?_
        refine J_callSi (fun r => r) (fun _ => g) (show Dc Y_X5_fondness 92 (.invokestatic 99) 3 95 from ⟨by decide +kernel, rfl⟩) w_m_RX5_99 w_st_X5_valueOf w_cw_X5_valueOf (c_X5_valueOf (v5 - (1000 : Int32)) x1 x2 x3 g) rfl rfl (by decide) (Nat.le_of_ble_eq_true rfl) (by decide) (by decide) (fun v11 => ?_)
        refine J_mask [true, true, true, true, true, true, false] ?_
        exact j_X5_fondness_95 N x0 x1 x2 x3 x4 x5 v10 x4 v11 g h0 hL38
      · refine J_iload rfl (show Dc Y_X5_fondness 78 (.iload 6) 2 80 from ⟨by decide +kernel, rfl⟩) ?_
        refine J_goto (tg := 95) (show Dc Y_X5_fondness 80 (.goto 15) 3 83 from ⟨by decide +kernel, rfl⟩) (by decide) ?_
        refine J_mask [true, true, true, true, true, true, false] ?_
        exact j_X5_fondness_95 N x0 x1 x2 x3 x4 x5 v10 x4 v5 g h0 hL38

theorem j_X5_fondness {X : ZX} (N : Nat) (x0 : Nat) (x1 : Nat) (x2 : Int32) (x3 : Int32)   (g : ZS) {K : (Int32 × ZS) → Prop} (h0 : ∀ v g, K (v, g) → xK X (some (.int v)) g) : J Y_X5_fondness X 0 0 0 [some (.ref x0), some (.ref x1), some (.int x2), some (.int x3), none, none, none] [] g (f_X5_fondness N x0 x1 x2 x3 g) K := by
  unfold f_X5_fondness
  refine J_aload_n rfl rfl (show Dc Y_X5_fondness 0 (.aload_n 0) 1 1 from ⟨by decide +kernel, rfl⟩) ?_
  refine J_getI (show Dc Y_X5_fondness 1 (.getfield 25) 3 4 from ⟨by decide +kernel, rfl⟩) w_f_RX5_25 rfl (fun v1 => ?_)
  refine J_if_ne (tg := 32) (show Dc Y_X5_fondness 4 (.ifCond .ne 28) 3 7 from ⟨by decide +kernel, rfl⟩) (by decide) (fun h => ?_) (fun h => ?_)
  · refine J_iconst (0 : Int32) rfl (show Dc Y_X5_fondness 32 (.iconst 0) 1 33 from ⟨by decide +kernel, rfl⟩) ?_
    refine J_istore [some (.ref x0), some (.ref x1), some (.int x2), some (.int x3), some (.int (0 : Int32)), none, none] (show Dc Y_X5_fondness 33 (.istore 4) 2 35 from ⟨by decide +kernel, rfl⟩) (by decide) rfl rfl ?_
    refine J_iconst (0 : Int32) rfl (show Dc Y_X5_fondness 35 (.iconst 0) 1 36 from ⟨by decide +kernel, rfl⟩) ?_
    refine J_istore [some (.ref x0), some (.ref x1), some (.int x2), some (.int x3), some (.int (0 : Int32)), some (.int (0 : Int32)), none] (show Dc Y_X5_fondness 36 (.istore 5) 2 38 from ⟨by decide +kernel, rfl⟩) (by decide) rfl rfl ?_
    exact J_loop (X := X) (K := K) (uc := fun _ => 0) (us := fun _ => 0) (lf := fun s => [some (.ref x0), some (.ref x1), some (.int x2), some (.int x3), some (.int s.1), some (.int s.2.1), none]) (gf := fun s => s.2.2) (fun s => j_X5_fondness_38 (K := zKl Y_X5_fondness X 38 (fun _ => 0) (fun _ => 0) (fun s => [some (.ref x0), some (.ref x1), some (.int x2), some (.int x3), some (.int s.1), some (.int s.2.1), none]) (fun s => s.2.2) K) N x0 x1 x2 x3 s.1 s.2.1 s.2.2 h0 (fun s h => h)) N ((0 : Int32), (0 : Int32), g)
  · refine J_aload_n rfl rfl (show Dc Y_X5_fondness 7 (.aload_n 1) 1 8 from ⟨by decide +kernel, rfl⟩) ?_
    refine J_getR (show Dc Y_X5_fondness 8 (.getfield 88) 3 11 from ⟨by decide +kernel, rfl⟩) w_f_RX5_88 rfl (fun v2 => ?_)
    refine J_iload_n rfl rfl (show Dc Y_X5_fondness 11 (.iload_n 2) 1 12 from ⟨by decide +kernel, rfl⟩) ?_
    refine J_iald (show Dc Y_X5_fondness 12 (.iaload) 1 13 from ⟨by decide +kernel, rfl⟩) (fun v3 => ?_)
    refine J_iconst (3 : Int32) rfl (show Dc Y_X5_fondness 13 (.iconst 3) 1 14 from ⟨by decide +kernel, rfl⟩) ?_
    refine J_imul (show Dc Y_X5_fondness 14 (.imul) 1 15 from ⟨by decide +kernel, rfl⟩) ?_
    refine J_aload_n rfl rfl (show Dc Y_X5_fondness 15 (.aload_n 1) 1 16 from ⟨by decide +kernel, rfl⟩) ?_
    refine J_getR (show Dc Y_X5_fondness 16 (.getfield 93) 3 19 from ⟨by decide +kernel, rfl⟩) w_f_RX5_93 rfl (fun v4 => ?_)
    refine J_iload_n rfl rfl (show Dc Y_X5_fondness 19 (.iload_n 2) 1 20 from ⟨by decide +kernel, rfl⟩) ?_
    refine J_iald (show Dc Y_X5_fondness 20 (.iaload) 1 21 from ⟨by decide +kernel, rfl⟩) (fun v5 => ?_)
    refine J_isub (show Dc Y_X5_fondness 21 (.isub) 1 22 from ⟨by decide +kernel, rfl⟩) ?_
    refine J_aload_n rfl rfl (show Dc Y_X5_fondness 22 (.aload_n 1) 1 23 from ⟨by decide +kernel, rfl⟩) ?_
    refine J_getR (show Dc Y_X5_fondness 23 (.getfield 96) 3 26 from ⟨by decide +kernel, rfl⟩) w_f_RX5_96 rfl (fun v6 => ?_)
    refine J_iload_n rfl rfl (show Dc Y_X5_fondness 26 (.iload_n 2) 1 27 from ⟨by decide +kernel, rfl⟩) ?_
    refine J_iald (show Dc Y_X5_fondness 27 (.iaload) 1 28 from ⟨by decide +kernel, rfl⟩) (fun v7 => ?_)
    refine J_iconst (5 : Int32) rfl (show Dc Y_X5_fondness 28 (.iconst 5) 1 29 from ⟨by decide +kernel, rfl⟩) ?_
    refine J_imul (show Dc Y_X5_fondness 29 (.imul) 1 30 from ⟨by decide +kernel, rfl⟩) ?_
    refine J_iadd (show Dc Y_X5_fondness 30 (.iadd) 1 31 from ⟨by decide +kernel, rfl⟩) ?_
    exact J_reti (show Dc Y_X5_fondness 31 (.ireturn) 1 32 from ⟨by decide +kernel, rfl⟩) rfl (h0 _ _) (by decide) (by decide)

theorem c_X5_fondness {l : Launch} {D : ZD} {B0 : Nat} (N : Nat) (x0 : Nat) (x1 : Nat) (x2 : Int32) (x3 : Int32) (g : ZS) : ∀ r, f_X5_fondness N x0 x1 x2 x3 g = some r → zCt l D B0 yX5_fondness Y_X5_fondness [.ref x0, .ref x1, .int x2, .int x3] g (some (.int r.1)) r.2 :=
  zCt_ofF (vo := fun r => some (.int r.1)) (so := fun r => r.2) (by decide +kernel) rfl (fun h => by cases h) rfl (Nat.le_of_ble_eq_true rfl) (fun X => j_X5_fondness N x0 x1 x2 x3 g (fun _ _ h => h))

theorem j_X12_isWord {X : ZX} (x0 : Int32)   (g : ZS) {K : Int32 → Prop} (h0 : ∀ v, K v → xK X (some (.int v)) g) : J Y_X12_isWord X 0 0 0 [some (.int x0)] [] g (f_X12_isWord x0) K := by
  unfold f_X12_isWord
  refine J_iload_n rfl rfl (show Dc Y_X12_isWord 0 (.iload_n 0) 1 1 from ⟨by decide +kernel, rfl⟩) ?_
  refine J_iconst (0 : Int32) rfl (show Dc Y_X12_isWord 1 (.iconst 0) 1 2 from ⟨by decide +kernel, rfl⟩) ?_
  refine J_bipush (7 : Int32) rfl (show Dc Y_X12_isWord 2 (.bipush 7) 2 4 from ⟨by decide +kernel, rfl⟩) ?_
  refine J_callSi (fun r => r) (fun _ => g) (show Dc Y_X12_isWord 4 (.invokestatic 119) 3 7 from ⟨by decide +kernel, rfl⟩) w_m_RX12_119 w_st_X12_in w_cw_X12_in (c_X12_in x0 (0 : Int32) (7 : Int32) g) rfl rfl (by decide) (Nat.le_of_ble_eq_true rfl) (by decide) (by decide) (fun v1 => ?_)
  exact J_retZ (show Dc Y_X12_isWord 7 (.ireturn) 1 8 from ⟨by decide +kernel, rfl⟩) rfl (h0 _) (by decide) (by decide)

theorem c_X12_isWord {l : Launch} {D : ZD} {B0 : Nat} (x0 : Int32) (g : ZS) : ∀ r, f_X12_isWord x0 = some r → zCt l D B0 yX12_isWord Y_X12_isWord [.int x0] g (some (.int r)) g :=
  zCt_ofF (vo := fun r => some (.int r)) (so := fun _ => g) (by decide +kernel) rfl (fun h => by cases h) rfl (Nat.le_of_ble_eq_true rfl) (fun X => j_X12_isWord x0 g (fun _ h => h))

theorem j_X2_wordOn_27 {X : ZX}  (s0 : Int32)  (g : ZS) {K : Int32 → Prop} (h0 : ∀ v, K v → xK X (some (.int v)) g) : J Y_X2_wordOn X 0 0 27 [none, none, none, none] [.int s0] g (f_X2_wordOn_27 s0 g) K := by
  unfold f_X2_wordOn_27
  exact J_reti (show Dc Y_X2_wordOn 27 (.ireturn) 1 28 from ⟨by decide +kernel, rfl⟩) rfl (h0 _) (by decide) (by decide)

theorem j_X2_wordOn {X : ZX} (x0 : Nat) (x1 : Int32) (x2 : Int32)   (g : ZS) {K : Int32 → Prop} (h0 : ∀ v, K v → xK X (some (.int v)) g) : J Y_X2_wordOn X 0 0 0 [some (.ref x0), some (.int x1), some (.int x2), none] [] g (f_X2_wordOn x0 x1 x2 g) K := by
  unfold f_X2_wordOn
  refine J_aload_n rfl rfl (show Dc Y_X2_wordOn 0 (.aload_n 0) 1 1 from ⟨by decide +kernel, rfl⟩) ?_
  refine J_getR (show Dc Y_X2_wordOn 1 (.getfield 16) 3 4 from ⟨by decide +kernel, rfl⟩) w_f_RX2_16 rfl (fun v1 => ?_)
  refine J_iload_n rfl rfl (show Dc Y_X2_wordOn 4 (.iload_n 1) 1 5 from ⟨by decide +kernel, rfl⟩) ?_
  refine J_iald (show Dc Y_X2_wordOn 5 (.iaload) 1 6 from ⟨by decide +kernel, rfl⟩) (fun v2 => ?_)
  refine J_istore_n [some (.ref x0), some (.int x1), some (.int x2), some (.int v2)] (show Dc Y_X2_wordOn 6 (.istore_n 3) 1 7 from ⟨by decide +kernel, rfl⟩) rfl (by decide) rfl rfl ?_
  refine J_iload_n rfl rfl (show Dc Y_X2_wordOn 7 (.iload_n 3) 1 8 from ⟨by decide +kernel, rfl⟩) ?_
  refine J_if_le (tg := 26) (show Dc Y_X2_wordOn 8 (.ifCond .le 18) 3 11 from ⟨by decide +kernel, rfl⟩) (by decide) (fun h => ?_) (fun h => ?_)
  · refine J_iconst (0 : Int32) rfl (show Dc Y_X2_wordOn 26 (.iconst 0) 1 27 from ⟨by decide +kernel, rfl⟩) ?_
    refine J_mask [false, false, false, false] ?_
    exact j_X2_wordOn_27 (0 : Int32) g h0
  · refine J_aload_n rfl rfl (show Dc Y_X2_wordOn 11 (.aload_n 0) 1 12 from ⟨by decide +kernel, rfl⟩) ?_
    refine J_getR (show Dc Y_X2_wordOn 12 (.getfield 11) 3 15 from ⟨by decide +kernel, rfl⟩) w_f_RX2_11 rfl (fun v3 => ?_)
    refine J_iload_n rfl rfl (show Dc Y_X2_wordOn 15 (.iload_n 1) 1 16 from ⟨by decide +kernel, rfl⟩) ?_
    refine J_aald (kd := 27) (by decide) (by decide) (show Dc Y_X2_wordOn 16 (.aaload) 1 17 from ⟨by decide +kernel, rfl⟩) (fun v4 => ?_)
    refine J_iload_n rfl rfl (show Dc Y_X2_wordOn 17 (.iload_n 2) 1 18 from ⟨by decide +kernel, rfl⟩) ?_
    refine J_iload_n rfl rfl (show Dc Y_X2_wordOn 18 (.iload_n 3) 1 19 from ⟨by decide +kernel, rfl⟩) ?_
    refine J_callSi (fun r => r) (fun _ => g) (show Dc Y_X2_wordOn 19 (.invokestatic 30) 3 22 from ⟨by decide +kernel, rfl⟩) w_m_RX2_30 w_st_J9_floorMod_7cf53 w_cw_J9_floorMod_7cf53 (c_J9_floorMod_7cf53 x2 v2 g) rfl rfl (by decide) (Nat.le_of_ble_eq_true rfl) (by decide) (by decide) (fun v5 => ?_)
    refine J_iald (show Dc Y_X2_wordOn 22 (.iaload) 1 23 from ⟨by decide +kernel, rfl⟩) (fun v6 => ?_)
    refine J_goto (tg := 27) (show Dc Y_X2_wordOn 23 (.goto 4) 3 26 from ⟨by decide +kernel, rfl⟩) (by decide) ?_
    refine J_mask [false, false, false, false] ?_
    exact j_X2_wordOn_27 v6 g h0

theorem c_X2_wordOn {l : Launch} {D : ZD} {B0 : Nat} (x0 : Nat) (x1 : Int32) (x2 : Int32) (g : ZS) : ∀ r, f_X2_wordOn x0 x1 x2 g = some r → zCt l D B0 yX2_wordOn Y_X2_wordOn [.ref x0, .int x1, .int x2] g (some (.int r)) g :=
  zCt_ofF (vo := fun r => some (.int r)) (so := fun _ => g) (by decide +kernel) rfl (fun h => by cases h) rfl (Nat.le_of_ble_eq_true rfl) (fun X => j_X2_wordOn x0 x1 x2 g (fun _ h => h))

theorem j_X11_said_17 {X : ZX}    (g : ZS) {K : Int32 → Prop} (h0 : ∀ v, K v → xK X (some (.int v)) g) : J Y_X11_said X 0 0 17 [none, none, none] [] g (f_X11_said_17 g) K := by
  unfold f_X11_said_17
  refine J_iconst (-1 : Int32) rfl (show Dc Y_X11_said 17 (.iconst (-1)) 1 18 from ⟨by decide +kernel, rfl⟩) ?_
  exact J_reti (show Dc Y_X11_said 18 (.ireturn) 1 19 from ⟨by decide +kernel, rfl⟩) rfl (h0 _) (by decide) (by decide)

theorem j_X11_said {X : ZX} (x0 : Nat) (x1 : Int32) (x2 : Int32)   (g : ZS) {K : Int32 → Prop} (h0 : ∀ v, K v → xK X (some (.int v)) g) : J Y_X11_said X 0 0 0 [some (.ref x0), some (.int x1), some (.int x2)] [] g (f_X11_said x0 x1 x2 g) K := by
  unfold f_X11_said
  refine J_iload_n rfl rfl (show Dc Y_X11_said 0 (.iload_n 1) 1 1 from ⟨by decide +kernel, rfl⟩) ?_
  refine J_callSi (fun r => r) (fun _ => g) (show Dc Y_X11_said 1 (.invokestatic 114) 3 4 from ⟨by decide +kernel, rfl⟩) w_m_RX11_114 w_st_X11_isHouse w_cw_X11_isHouse (c_X11_isHouse x1 g) rfl rfl (by decide) (Nat.le_of_ble_eq_true rfl) (by decide) (by decide) (fun v1 => ?_)
  refine J_if_eq (tg := 17) (show Dc Y_X11_said 4 (.ifCond .eq 13) 3 7 from ⟨by decide +kernel, rfl⟩) (by decide) (fun h => ?_) (fun h => ?_)
  · refine J_mask [false, false, false] ?_
    exact j_X11_said_17 g h0
  · refine J_iload_n rfl rfl (show Dc Y_X11_said 7 (.iload_n 2) 1 8 from ⟨by decide +kernel, rfl⟩) ?_
    refine J_if_lt (tg := 17) (show Dc Y_X11_said 8 (.ifCond .lt 9) 3 11 from ⟨by decide +kernel, rfl⟩) (by decide) (fun h => ?_) (fun h => ?_)
    · refine J_mask [false, false, false] ?_
      exact j_X11_said_17 g h0
    · refine J_iload_n rfl rfl (show Dc Y_X11_said 11 (.iload_n 2) 1 12 from ⟨by decide +kernel, rfl⟩) ?_
      refine J_bipush (99 : Int32) rfl (show Dc Y_X11_said 12 (.bipush 99) 2 14 from ⟨by decide +kernel, rfl⟩) ?_
      refine J_icmp_le (tg := 19) (show Dc Y_X11_said 14 (.if_icmp .le 5) 3 17 from ⟨by decide +kernel, rfl⟩) (by decide) (fun h => ?_) (fun h => ?_)
      · refine J_aload_n rfl rfl (show Dc Y_X11_said 19 (.aload_n 0) 1 20 from ⟨by decide +kernel, rfl⟩) ?_
        refine J_getR (show Dc Y_X11_said 20 (.getfield 26) 3 23 from ⟨by decide +kernel, rfl⟩) w_f_RX11_26 rfl (fun v2 => ?_)
        refine J_iload_n rfl rfl (show Dc Y_X11_said 23 (.iload_n 1) 1 24 from ⟨by decide +kernel, rfl⟩) ?_
        refine J_aload_n rfl rfl (show Dc Y_X11_said 24 (.aload_n 0) 1 25 from ⟨by decide +kernel, rfl⟩) ?_
        refine J_getR (show Dc Y_X11_said 25 (.getfield 47) 3 28 from ⟨by decide +kernel, rfl⟩) w_f_RX11_47 rfl (fun v3 => ?_)
        refine J_getI (show Dc Y_X11_said 28 (.getfield 219) 3 31 from ⟨by decide +kernel, rfl⟩) w_f_RX11_219 rfl (fun v4 => ?_)
        refine J_iload_n rfl rfl (show Dc Y_X11_said 31 (.iload_n 2) 1 32 from ⟨by decide +kernel, rfl⟩) ?_
        refine J_iadd (show Dc Y_X11_said 32 (.iadd) 1 33 from ⟨by decide +kernel, rfl⟩) ?_
        refine J_callVi (fun r => r) (fun _ => g) (show Dc Y_X11_said 33 (.invokevirtual 222) 3 36 from ⟨by decide +kernel, rfl⟩) w_m_RX11_222 w_in_X2_wordOn rfl w_se_X2_wordOn w_cw_X2_wordOn (c_X2_wordOn v2 x1 (v4 + x2) g) rfl rfl (by decide) (Nat.le_of_ble_eq_true rfl) (by decide) (by decide) (fun v5 => ?_)
        exact J_reti (show Dc Y_X11_said 36 (.ireturn) 1 37 from ⟨by decide +kernel, rfl⟩) rfl (h0 _) (by decide) (by decide)
      · refine J_mask [false, false, false] ?_
        exact j_X11_said_17 g h0

theorem c_X11_said {l : Launch} {D : ZD} {B0 : Nat} (x0 : Nat) (x1 : Int32) (x2 : Int32) (g : ZS) : ∀ r, f_X11_said x0 x1 x2 g = some r → zCt l D B0 yX11_said Y_X11_said [.ref x0, .int x1, .int x2] g (some (.int r)) g :=
  zCt_ofF (vo := fun r => some (.int r)) (so := fun _ => g) (by decide +kernel) rfl (fun h => by cases h) rfl (Nat.le_of_ble_eq_true rfl) (fun X => j_X11_said x0 x1 x2 g (fun _ h => h))

theorem j_X12_saidOn {X : ZX} (x0 : Nat) (x1 : Int32) (x2 : Int32)   (g : ZS) {K : Int32 → Prop} (h0 : ∀ v, K v → xK X (some (.int v)) g) : J Y_X12_saidOn X 0 0 0 [some (.ref x0), some (.int x1), some (.int x2)] [] g (f_X12_saidOn x0 x1 x2 g) K := by
  unfold f_X12_saidOn
  refine J_aload_n rfl rfl (show Dc Y_X12_saidOn 0 (.aload_n 0) 1 1 from ⟨by decide +kernel, rfl⟩) ?_
  refine J_getR (show Dc Y_X12_saidOn 1 (.getfield 19) 3 4 from ⟨by decide +kernel, rfl⟩) w_f_RX12_19 rfl (fun v1 => ?_)
  refine J_bipush (16 : Int32) rfl (show Dc Y_X12_saidOn 4 (.bipush 16) 2 6 from ⟨by decide +kernel, rfl⟩) ?_
  refine J_iload_n rfl rfl (show Dc Y_X12_saidOn 6 (.iload_n 1) 1 7 from ⟨by decide +kernel, rfl⟩) ?_
  refine J_imul (show Dc Y_X12_saidOn 7 (.imul) 1 8 from ⟨by decide +kernel, rfl⟩) ?_
  refine J_iload_n rfl rfl (show Dc Y_X12_saidOn 8 (.iload_n 2) 1 9 from ⟨by decide +kernel, rfl⟩) ?_
  refine J_aload_n rfl rfl (show Dc Y_X12_saidOn 9 (.aload_n 0) 1 10 from ⟨by decide +kernel, rfl⟩) ?_
  refine J_getR (show Dc Y_X12_saidOn 10 (.getfield 22) 3 13 from ⟨by decide +kernel, rfl⟩) w_f_RX12_22 rfl (fun v2 => ?_)
  refine J_iload_n rfl rfl (show Dc Y_X12_saidOn 13 (.iload_n 1) 1 14 from ⟨by decide +kernel, rfl⟩) ?_
  refine J_iald (show Dc Y_X12_saidOn 14 (.iaload) 1 15 from ⟨by decide +kernel, rfl⟩) (fun v3 => ?_)
  refine J_irem (show Dc Y_X12_saidOn 15 (.irem) 1 16 from ⟨by decide +kernel, rfl⟩) ?_
  refine J_iadd (show Dc Y_X12_saidOn 16 (.iadd) 1 17 from ⟨by decide +kernel, rfl⟩) ?_
  refine J_iald (show Dc Y_X12_saidOn 17 (.iaload) 1 18 from ⟨by decide +kernel, rfl⟩) (fun v4 => ?_)
  exact J_reti (show Dc Y_X12_saidOn 18 (.ireturn) 1 19 from ⟨by decide +kernel, rfl⟩) rfl (h0 _) (by decide) (by decide)

theorem c_X12_saidOn {l : Launch} {D : ZD} {B0 : Nat} (x0 : Nat) (x1 : Int32) (x2 : Int32) (g : ZS) : ∀ r, f_X12_saidOn x0 x1 x2 g = some r → zCt l D B0 yX12_saidOn Y_X12_saidOn [.ref x0, .int x1, .int x2] g (some (.int r)) g :=
  zCt_ofF (vo := fun r => some (.int r)) (so := fun _ => g) (by decide +kernel) rfl (fun h => by cases h) rfl (Nat.le_of_ble_eq_true rfl) (fun X => j_X12_saidOn x0 x1 x2 g (fun _ h => h))

theorem j_X12_said_41 {X : ZX}  (s0 : Int32)  (g : ZS) {K : (Int32 × ZS) → Prop} (h0 : ∀ v g, K (v, g) → xK X (some (.int v)) g) : J Y_X12_said X 0 0 41 [none, none, none] [.int s0] g (f_X12_said_41 s0 g) K := by
  unfold f_X12_said_41
  exact J_reti (show Dc Y_X12_said 41 (.ireturn) 1 42 from ⟨by decide +kernel, rfl⟩) rfl (h0 _ _) (by decide) (by decide)

theorem j_X12_said_40 {X : ZX}    (g : ZS) {K : (Int32 × ZS) → Prop} (h0 : ∀ v g, K (v, g) → xK X (some (.int v)) g) : J Y_X12_said X 0 0 40 [none, none, none] [] g (f_X12_said_40 g) K := by
  unfold f_X12_said_40
  refine J_iconst (-1 : Int32) rfl (show Dc Y_X12_said 40 (.iconst (-1)) 1 41 from ⟨by decide +kernel, rfl⟩) ?_
  exact j_X12_said_41 (-1 : Int32) g h0

theorem j_X12_said {X : ZX} (x0 : Nat) (x1 : Int32) (x2 : Int32)   (g : ZS) {K : (Int32 × ZS) → Prop} (h0 : ∀ v g, K (v, g) → xK X (some (.int v)) g) : J Y_X12_said X 0 0 0 [some (.ref x0), some (.int x1), some (.int x2)] [] g (f_X12_said x0 x1 x2 g) K := by
  unfold f_X12_said
  refine J_aload_n rfl rfl (show Dc Y_X12_said 0 (.aload_n 0) 1 1 from ⟨by decide +kernel, rfl⟩) ?_
  refine J_iconst (0 : Int32) rfl (show Dc Y_X12_said 1 (.iconst 0) 1 2 from ⟨by decide +kernel, rfl⟩) ?_
  refine J_putI (show Dc Y_X12_said 2 (.putfield 109) 3 5 from ⟨by decide +kernel, rfl⟩) w_f_RX12_109 rfl rfl (fun g1 => ?_) (fun h => by cases h)
  refine J_iload_n rfl rfl (show Dc Y_X12_said 5 (.iload_n 1) 1 6 from ⟨by decide +kernel, rfl⟩) ?_
  refine J_callSi (fun r => r) (fun _ => g1) (show Dc Y_X12_said 6 (.invokestatic 171) 3 9 from ⟨by decide +kernel, rfl⟩) w_m_RX12_171 w_st_X12_isHouse w_cw_X12_isHouse (c_X12_isHouse x1 g1) rfl rfl (by decide) (Nat.le_of_ble_eq_true rfl) (by decide) (by decide) (fun v2 => ?_)
  refine J_if_eq (tg := 40) (show Dc Y_X12_said 9 (.ifCond .eq 31) 3 12 from ⟨by decide +kernel, rfl⟩) (by decide) (fun h => ?_) (fun h => ?_)
  · refine J_mask [false, false, false] ?_
    exact j_X12_said_40 g1 h0
  · refine J_iload_n rfl rfl (show Dc Y_X12_said 12 (.iload_n 2) 1 13 from ⟨by decide +kernel, rfl⟩) ?_
    refine J_iconst (0 : Int32) rfl (show Dc Y_X12_said 13 (.iconst 0) 1 14 from ⟨by decide +kernel, rfl⟩) ?_
    refine J_bipush (99 : Int32) rfl (show Dc Y_X12_said 14 (.bipush 99) 2 16 from ⟨by decide +kernel, rfl⟩) ?_
    refine J_callSi (fun r => r) (fun _ => g1) (show Dc Y_X12_said 16 (.invokestatic 119) 3 19 from ⟨by decide +kernel, rfl⟩) w_m_RX12_119 w_st_X12_in w_cw_X12_in (c_X12_in x2 (0 : Int32) (99 : Int32) g1) rfl rfl (by decide) (Nat.le_of_ble_eq_true rfl) (by decide) (by decide) (fun v3 => ?_)
    refine J_if_eq (tg := 40) (show Dc Y_X12_said 19 (.ifCond .eq 21) 3 22 from ⟨by decide +kernel, rfl⟩) (by decide) (fun h => ?_) (fun h => ?_)
    · refine J_mask [false, false, false] ?_
      exact j_X12_said_40 g1 h0
    · refine J_aload_n rfl rfl (show Dc Y_X12_said 22 (.aload_n 0) 1 23 from ⟨by decide +kernel, rfl⟩) ?_
      refine J_iload_n rfl rfl (show Dc Y_X12_said 23 (.iload_n 1) 1 24 from ⟨by decide +kernel, rfl⟩) ?_
      refine J_aload_n rfl rfl (show Dc Y_X12_said 24 (.aload_n 0) 1 25 from ⟨by decide +kernel, rfl⟩) ?_
      refine J_getR (show Dc Y_X12_said 25 (.getfield 9) 3 28 from ⟨by decide +kernel, rfl⟩) w_f_RX12_9 rfl (fun v4 => ?_)
      refine J_sipush (216 : Int32) rfl (show Dc Y_X12_said 28 (.sipush 216) 3 31 from ⟨by decide +kernel, rfl⟩) ?_
      refine J_iald (show Dc Y_X12_said 31 (.iaload) 1 32 from ⟨by decide +kernel, rfl⟩) (fun v5 => ?_)
      refine J_iload_n rfl rfl (show Dc Y_X12_said 32 (.iload_n 2) 1 33 from ⟨by decide +kernel, rfl⟩) ?_
      refine J_iadd (show Dc Y_X12_said 33 (.iadd) 1 34 from ⟨by decide +kernel, rfl⟩) ?_
      refine J_callVi (fun r => r) (fun _ => g1) (show Dc Y_X12_said 34 (.invokevirtual 247) 3 37 from ⟨by decide +kernel, rfl⟩) w_m_RX12_247 w_in_X12_saidOn rfl w_se_X12_saidOn w_cw_X12_saidOn (c_X12_saidOn x0 x1 (v5 + x2) g1) rfl rfl (by decide) (Nat.le_of_ble_eq_true rfl) (by decide) (by decide) (fun v6 => ?_)
      refine J_goto (tg := 41) (show Dc Y_X12_said 37 (.goto 4) 3 40 from ⟨by decide +kernel, rfl⟩) (by decide) ?_
      refine J_mask [false, false, false] ?_
      exact j_X12_said_41 v6 g1 h0

theorem c_X12_said {l : Launch} {D : ZD} {B0 : Nat} (x0 : Nat) (x1 : Int32) (x2 : Int32) (g : ZS) : ∀ r, f_X12_said x0 x1 x2 g = some r → zCt l D B0 yX12_said Y_X12_said [.ref x0, .int x1, .int x2] g (some (.int r.1)) r.2 :=
  zCt_ofF (vo := fun r => some (.int r.1)) (so := fun r => r.2) (by decide +kernel) rfl (fun h => by cases h) rfl (Nat.le_of_ble_eq_true rfl) (fun X => j_X12_said x0 x1 x2 g (fun _ _ h => h))

theorem j_X11_asWorth_20 {X : ZX} (x2 : Int32)   (g : ZS) {K : Int32 → Prop} (h0 : ∀ v, K v → xK X (some (.int v)) g) : J Y_X11_asWorth X 0 0 20 [none, none, some (.int x2)] [] g (f_X11_asWorth_20 x2) K := by
  unfold f_X11_asWorth_20
  refine J_iconst (0 : Int32) rfl (show Dc Y_X11_asWorth 20 (.iconst 0) 1 21 from ⟨by decide +kernel, rfl⟩) ?_
  refine J_bipush (9 : Int32) rfl (show Dc Y_X11_asWorth 21 (.bipush 9) 2 23 from ⟨by decide +kernel, rfl⟩) ?_
  refine J_iload_n rfl rfl (show Dc Y_X11_asWorth 23 (.iload_n 2) 1 24 from ⟨by decide +kernel, rfl⟩) ?_
  refine J_callSi (fun r => r) (fun _ => g) (show Dc Y_X11_asWorth 24 (.invokestatic 233) 3 27 from ⟨by decide +kernel, rfl⟩) w_m_RX11_233 w_st_J9_min_7cf53 w_cw_J9_min_7cf53 (c_J9_min_7cf53 (9 : Int32) x2 g) rfl rfl (by decide) (Nat.le_of_ble_eq_true rfl) (by decide) (by decide) (fun v1 => ?_)
  refine J_callSi (fun r => r) (fun _ => g) (show Dc Y_X11_asWorth 27 (.invokestatic 238) 3 30 from ⟨by decide +kernel, rfl⟩) w_m_RX11_238 w_st_J9_max_7cf53 w_cw_J9_max_7cf53 (c_J9_max_7cf53 (0 : Int32) v1 g) rfl rfl (by decide) (Nat.le_of_ble_eq_true rfl) (by decide) (by decide) (fun v2 => ?_)
  exact J_reti (show Dc Y_X11_asWorth 30 (.ireturn) 1 31 from ⟨by decide +kernel, rfl⟩) rfl (h0 _) (by decide) (by decide)

theorem j_X11_asWorth {X : ZX} (x0 : Int32) (x1 : Int32)   (g : ZS) {K : Int32 → Prop} (h0 : ∀ v, K v → xK X (some (.int v)) g) : J Y_X11_asWorth X 0 0 0 [some (.int x0), some (.int x1), none] [] g (f_X11_asWorth x0 x1) K := by
  unfold f_X11_asWorth
  refine J_iload_n rfl rfl (show Dc Y_X11_asWorth 0 (.iload_n 1) 1 1 from ⟨by decide +kernel, rfl⟩) ?_
  refine J_istore_n [some (.int x0), some (.int x1), some (.int x1)] (show Dc Y_X11_asWorth 1 (.istore_n 2) 1 2 from ⟨by decide +kernel, rfl⟩) rfl (by decide) rfl rfl ?_
  refine J_iload_n rfl rfl (show Dc Y_X11_asWorth 2 (.iload_n 0) 1 3 from ⟨by decide +kernel, rfl⟩) ?_
  refine J_if_ne (tg := 12) (show Dc Y_X11_asWorth 3 (.ifCond .ne 9) 3 6 from ⟨by decide +kernel, rfl⟩) (by decide) (fun h => ?_) (fun h => ?_)
  · refine J_iload_n rfl rfl (show Dc Y_X11_asWorth 12 (.iload_n 0) 1 13 from ⟨by decide +kernel, rfl⟩) ?_
    refine J_iconst (1 : Int32) rfl (show Dc Y_X11_asWorth 13 (.iconst 1) 1 14 from ⟨by decide +kernel, rfl⟩) ?_
    refine J_icmp_ne (tg := 20) (show Dc Y_X11_asWorth 14 (.if_icmp .ne 6) 3 17 from ⟨by decide +kernel, rfl⟩) (by decide) (fun h => ?_) (fun h => ?_)
    · refine J_mask [false, false, true] ?_
      exact j_X11_asWorth_20 x1 g h0
    · refine J_iload_n rfl rfl (show Dc Y_X11_asWorth 17 (.iload_n 1) 1 18 from ⟨by decide +kernel, rfl⟩) ?_
      refine J_i2s (show Dc Y_X11_asWorth 18 (.i2s) 1 19 from ⟨by decide +kernel, rfl⟩) ?_
      refine J_istore_n [some (.int x0), some (.int x1), some (.int x1.toInt16.toInt32)] (show Dc Y_X11_asWorth 19 (.istore_n 2) 1 20 from ⟨by decide +kernel, rfl⟩) rfl (by decide) rfl rfl ?_
      refine J_mask [false, false, true] ?_
      exact j_X11_asWorth_20 x1.toInt16.toInt32 g h0
  · refine J_iload_n rfl rfl (show Dc Y_X11_asWorth 6 (.iload_n 1) 1 7 from ⟨by decide +kernel, rfl⟩) ?_
    refine J_i2b (show Dc Y_X11_asWorth 7 (.i2b) 1 8 from ⟨by decide +kernel, rfl⟩) ?_
    refine J_istore_n [some (.int x0), some (.int x1), some (.int x1.toInt8.toInt32)] (show Dc Y_X11_asWorth 8 (.istore_n 2) 1 9 from ⟨by decide +kernel, rfl⟩) rfl (by decide) rfl rfl ?_
    refine J_goto (tg := 20) (show Dc Y_X11_asWorth 9 (.goto 11) 3 12 from ⟨by decide +kernel, rfl⟩) (by decide) ?_
    refine J_mask [false, false, true] ?_
    exact j_X11_asWorth_20 x1.toInt8.toInt32 g h0

theorem c_X11_asWorth {l : Launch} {D : ZD} {B0 : Nat} (x0 : Int32) (x1 : Int32) (g : ZS) : ∀ r, f_X11_asWorth x0 x1 = some r → zCt l D B0 yX11_asWorth Y_X11_asWorth [.int x0, .int x1] g (some (.int r)) g :=
  zCt_ofF (vo := fun r => some (.int r)) (so := fun _ => g) (by decide +kernel) rfl (fun h => by cases h) rfl (Nat.le_of_ble_eq_true rfl) (fun X => j_X11_asWorth x0 x1 g (fun _ h => h))

theorem j_X11_fillWorths_35 {X : ZX} (N : Nat) (x0 : Nat) (x1 : Int32) (x2 : Int32) (x4 : Int32) (x5 : Int32) (x6 : Int32) (s0 : Nat) (s1 : Int32) (s2 : Int32)  (g : ZS) {K : ((Int32 × Int32 × ZS) ⊕ ZS) → Prop} (h0 : ∀ g, K (.inr g) → xK X none g) (hL6 : ∀ s, K (.inl s) → zG Y_X11_fillWorths X 0 0 6 [some (.ref x0), some (.int x1), some (.int x2), none, some (.int x4), some (.int s.1), some (.int s.2.1)] [] s.2.2) : J Y_X11_fillWorths X 0 0 35 [some (.ref x0), some (.int x1), some (.int x2), none, some (.int x4), some (.int x5), some (.int x6)] [.int s2, .int s1, .ref s0] g (f_X11_fillWorths_35 N x0 x1 x2 x4 x5 x6 s0 s1 s2 g) K := by
  unfold f_X11_fillWorths_35
  refine J_iast (show Dc Y_X11_fillWorths 35 (.iastore) 1 36 from ⟨by decide +kernel, rfl⟩) (fun g1 => ?_)
  refine J_iload rfl (show Dc Y_X11_fillWorths 36 (.iload 5) 2 38 from ⟨by decide +kernel, rfl⟩) ?_
  refine J_iload rfl (show Dc Y_X11_fillWorths 38 (.iload 4) 2 40 from ⟨by decide +kernel, rfl⟩) ?_
  refine J_iadd (show Dc Y_X11_fillWorths 40 (.iadd) 1 41 from ⟨by decide +kernel, rfl⟩) ?_
  refine J_istore [some (.ref x0), some (.int x1), some (.int x2), none, some (.int x4), some (.int (x5 + x4)), some (.int x6)] (show Dc Y_X11_fillWorths 41 (.istore 5) 2 43 from ⟨by decide +kernel, rfl⟩) (by decide) rfl rfl ?_
  refine J_iinc (1 : Int32) [some (.ref x0), some (.int x1), some (.int x2), none, some (.int x4), some (.int (x5 + x4)), some (.int (x6 + (1 : Int32)))] (show Dc Y_X11_fillWorths 43 (.iinc 6 1) 3 46 from ⟨by decide +kernel, rfl⟩) rfl rfl (by decide) rfl rfl ?_
  refine J_goto (tg := 6) (show Dc Y_X11_fillWorths 46 (.goto (-40)) 3 49 from ⟨by decide +kernel, rfl⟩) (by decide) ?_
  exact J_leaf (fun h => hL6 (x5 + x4, x6 + (1 : Int32), g1) h)

theorem j_X11_fillWorths_6 {X : ZX} (N : Nat) (x0 : Nat) (x1 : Int32) (x2 : Int32) (x4 : Int32) (x5 : Int32) (x6 : Int32)   (g : ZS) {K : ((Int32 × Int32 × ZS) ⊕ ZS) → Prop} (h0 : ∀ g, K (.inr g) → xK X none g) (hL6 : ∀ s, K (.inl s) → zG Y_X11_fillWorths X 0 0 6 [some (.ref x0), some (.int x1), some (.int x2), none, some (.int x4), some (.int s.1), some (.int s.2.1)] [] s.2.2) : J Y_X11_fillWorths X 0 0 6 [some (.ref x0), some (.int x1), some (.int x2), none, some (.int x4), some (.int x5), some (.int x6)] [] g (f_X11_fillWorths_6 N x0 x1 x2 x4 x5 x6 g) K := by
  unfold f_X11_fillWorths_6
  refine J_iload rfl (show Dc Y_X11_fillWorths 6 (.iload 6) 2 8 from ⟨by decide +kernel, rfl⟩) ?_
  refine J_bipush (8 : Int32) rfl (show Dc Y_X11_fillWorths 8 (.bipush 8) 2 10 from ⟨by decide +kernel, rfl⟩) ?_
  refine J_icmp_ge (tg := 49) (show Dc Y_X11_fillWorths 10 (.if_icmp .ge 39) 3 13 from ⟨by decide +kernel, rfl⟩) (by decide) (fun h => ?_) (fun h => ?_)
  · refine J_map (f := Sum.inr) (fun _ h => h) ?_
    exact J_ret0 (show Dc Y_X11_fillWorths 49 (.return_) 1 50 from ⟨by decide +kernel, rfl⟩) rfl (h0 _) (by decide) (by decide)
  · refine J_aload_n rfl rfl (show Dc Y_X11_fillWorths 13 (.aload_n 0) 1 14 from ⟨by decide +kernel, rfl⟩) ?_
    refine J_getR (show Dc Y_X11_fillWorths 14 (.getfield 30) 3 17 from ⟨by decide +kernel, rfl⟩) w_f_RX11_30 rfl (fun v1 => ?_)
    refine J_iload rfl (show Dc Y_X11_fillWorths 17 (.iload 6) 2 19 from ⟨by decide +kernel, rfl⟩) ?_
    refine J_iload rfl (show Dc Y_X11_fillWorths 19 (.iload 6) 2 21 from ⟨by decide +kernel, rfl⟩) ?_
    refine J_iload_n rfl rfl (show Dc Y_X11_fillWorths 21 (.iload_n 2) 1 22 from ⟨by decide +kernel, rfl⟩) ?_
    refine J_icmp_ge (tg := 34) (show Dc Y_X11_fillWorths 22 (.if_icmp .ge 12) 3 25 from ⟨by decide +kernel, rfl⟩) (by decide) (fun h => ?_) (fun h => ?_)
    · refine J_iconst (0 : Int32) rfl (show Dc Y_X11_fillWorths 34 (.iconst 0) 1 35 from ⟨by decide +kernel, rfl⟩) ?_
      exact j_X11_fillWorths_35 N x0 x1 x2 x4 x5 x6 v1 x6 (0 : Int32) g h0 hL6
    · refine J_iload_n rfl rfl (show Dc Y_X11_fillWorths 25 (.iload_n 1) 1 26 from ⟨by decide +kernel, rfl⟩) ?_
      refine J_iload rfl (show Dc Y_X11_fillWorths 26 (.iload 5) 2 28 from ⟨by decide +kernel, rfl⟩) ?_
      refine J_callSi (fun r => r) (fun _ => g) (show Dc Y_X11_fillWorths 28 (.invokestatic 230) 3 31 from ⟨by decide +kernel, rfl⟩) w_m_RX11_230 w_st_X11_asWorth w_cw_X11_asWorth (c_X11_asWorth x1 x5 g) rfl rfl (by decide) (Nat.le_of_ble_eq_true rfl) (by decide) (by decide) (fun v2 => ?_)
      refine J_goto (tg := 35) (show Dc Y_X11_fillWorths 31 (.goto 4) 3 34 from ⟨by decide +kernel, rfl⟩) (by decide) ?_
      exact j_X11_fillWorths_35 N x0 x1 x2 x4 x5 x6 v1 x6 v2 g h0 hL6

theorem j_X11_fillWorths {X : ZX} (N : Nat) (x0 : Nat) (x1 : Int32) (x2 : Int32) (x3 : Int32) (x4 : Int32)   (g : ZS) {K : ZS → Prop} (h0 : ∀ g, K g → xK X none g) : J Y_X11_fillWorths X 0 0 0 [some (.ref x0), some (.int x1), some (.int x2), some (.int x3), some (.int x4), none, none] [] g (f_X11_fillWorths N x0 x1 x2 x3 x4 g) K := by
  unfold f_X11_fillWorths
  refine J_iload_n rfl rfl (show Dc Y_X11_fillWorths 0 (.iload_n 3) 1 1 from ⟨by decide +kernel, rfl⟩) ?_
  refine J_istore [some (.ref x0), some (.int x1), some (.int x2), some (.int x3), some (.int x4), some (.int x3), none] (show Dc Y_X11_fillWorths 1 (.istore 5) 2 3 from ⟨by decide +kernel, rfl⟩) (by decide) rfl rfl ?_
  refine J_iconst (0 : Int32) rfl (show Dc Y_X11_fillWorths 3 (.iconst 0) 1 4 from ⟨by decide +kernel, rfl⟩) ?_
  refine J_istore [some (.ref x0), some (.int x1), some (.int x2), some (.int x3), some (.int x4), some (.int x3), some (.int (0 : Int32))] (show Dc Y_X11_fillWorths 4 (.istore 6) 2 6 from ⟨by decide +kernel, rfl⟩) (by decide) rfl rfl ?_
  refine J_mask [true, true, true, false, true, true, true] ?_
  exact J_loop (X := X) (K := K) (uc := fun _ => 0) (us := fun _ => 0) (lf := fun s => [some (.ref x0), some (.int x1), some (.int x2), none, some (.int x4), some (.int s.1), some (.int s.2.1)]) (gf := fun s => s.2.2) (fun s => j_X11_fillWorths_6 (K := zKl Y_X11_fillWorths X 6 (fun _ => 0) (fun _ => 0) (fun s => [some (.ref x0), some (.int x1), some (.int x2), none, some (.int x4), some (.int s.1), some (.int s.2.1)]) (fun s => s.2.2) K) N x0 x1 x2 x4 s.1 s.2.1 s.2.2 h0 (fun s h => h)) N (x3, (0 : Int32), g)

theorem c_X11_fillWorths {l : Launch} {D : ZD} {B0 : Nat} (N : Nat) (x0 : Nat) (x1 : Int32) (x2 : Int32) (x3 : Int32) (x4 : Int32) (g : ZS) : ∀ r, f_X11_fillWorths N x0 x1 x2 x3 x4 g = some r → zCt l D B0 yX11_fillWorths Y_X11_fillWorths [.ref x0, .int x1, .int x2, .int x3, .int x4] g none r :=
  zCt_ofF (vo := fun _ => none) (so := fun r => r) (by decide +kernel) rfl (fun h => by cases h) rfl (Nat.le_of_ble_eq_true rfl) (fun X => j_X11_fillWorths N x0 x1 x2 x3 x4 g (fun _ h => h))

theorem j_X11_sheet_15 {X : ZX} (N : Nat)    (g : ZS) {K : (Int32 × ZS) → Prop} (h0 : ∀ v g, K (v, g) → xK X (some (.int v)) g) : J Y_X11_sheet X 0 0 15 [none, none, none, none, none] [] g (f_X11_sheet_15 N g) K := by
  unfold f_X11_sheet_15
  refine J_iconst (-1 : Int32) rfl (show Dc Y_X11_sheet 15 (.iconst (-1)) 1 16 from ⟨by decide +kernel, rfl⟩) ?_
  exact J_reti (show Dc Y_X11_sheet 16 (.ireturn) 1 17 from ⟨by decide +kernel, rfl⟩) rfl (h0 _ _) (by decide) (by decide)

theorem j_X11_sheet {X : ZX} (N : Nat) (x0 : Nat) (x1 : Int32) (x2 : Int32) (x3 : Int32) (x4 : Int32)   (g : ZS) {K : (Int32 × ZS) → Prop} (h0 : ∀ v g, K (v, g) → xK X (some (.int v)) g) : J Y_X11_sheet X 0 0 0 [some (.ref x0), some (.int x1), some (.int x2), some (.int x3), some (.int x4)] [] g (f_X11_sheet N x0 x1 x2 x3 x4 g) K := by
  unfold f_X11_sheet
  refine J_iload_n rfl rfl (show Dc Y_X11_sheet 0 (.iload_n 1) 1 1 from ⟨by decide +kernel, rfl⟩) ?_
  refine J_if_lt (tg := 15) (show Dc Y_X11_sheet 1 (.ifCond .lt 14) 3 4 from ⟨by decide +kernel, rfl⟩) (by decide) (fun h => ?_) (fun h => ?_)
  · refine J_mask [false, false, false, false, false] ?_
    exact j_X11_sheet_15 N g h0
  · refine J_iload_n rfl rfl (show Dc Y_X11_sheet 4 (.iload_n 1) 1 5 from ⟨by decide +kernel, rfl⟩) ?_
    refine J_iconst (3 : Int32) rfl (show Dc Y_X11_sheet 5 (.iconst 3) 1 6 from ⟨by decide +kernel, rfl⟩) ?_
    refine J_icmp_gt (tg := 15) (show Dc Y_X11_sheet 6 (.if_icmp .gt 9) 3 9 from ⟨by decide +kernel, rfl⟩) (by decide) (fun h => ?_) (fun h => ?_)
    · refine J_mask [false, false, false, false, false] ?_
      exact j_X11_sheet_15 N g h0
    · refine J_iload_n rfl rfl (show Dc Y_X11_sheet 9 (.iload_n 2) 1 10 from ⟨by decide +kernel, rfl⟩) ?_
      refine J_bipush (8 : Int32) rfl (show Dc Y_X11_sheet 10 (.bipush 8) 2 12 from ⟨by decide +kernel, rfl⟩) ?_
      refine J_icmp_le (tg := 17) (show Dc Y_X11_sheet 12 (.if_icmp .le 5) 3 15 from ⟨by decide +kernel, rfl⟩) (by decide) (fun h => ?_) (fun h => ?_)
      · refine J_iload_n rfl rfl (show Dc Y_X11_sheet 17 (.iload_n 1) 1 18 from ⟨by decide +kernel, rfl⟩) ?_
        refine J_iconst (3 : Int32) rfl (show Dc Y_X11_sheet 18 (.iconst 3) 1 19 from ⟨by decide +kernel, rfl⟩) ?_
        refine J_icmp_ne (tg := 34) (show Dc Y_X11_sheet 19 (.if_icmp .ne 15) 3 22 from ⟨by decide +kernel, rfl⟩) (by decide) (fun h => ?_) (fun h => ?_)
        · refine J_iload_n rfl rfl (show Dc Y_X11_sheet 34 (.iload_n 2) 1 35 from ⟨by decide +kernel, rfl⟩) ?_
          refine J_if_ge (tg := 41) (show Dc Y_X11_sheet 35 (.ifCond .ge 6) 3 38 from ⟨by decide +kernel, rfl⟩) (by decide) (fun h => ?_) (fun h => ?_)
          · refine J_aload_n rfl rfl (show Dc Y_X11_sheet 41 (.aload_n 0) 1 42 from ⟨by decide +kernel, rfl⟩) ?_
            refine J_iload_n rfl rfl (show Dc Y_X11_sheet 42 (.iload_n 1) 1 43 from ⟨by decide +kernel, rfl⟩) ?_
            refine J_iload_n rfl rfl (show Dc Y_X11_sheet 43 (.iload_n 2) 1 44 from ⟨by decide +kernel, rfl⟩) ?_
            refine J_iload_n rfl rfl (show Dc Y_X11_sheet 44 (.iload_n 3) 1 45 from ⟨by decide +kernel, rfl⟩) ?_
            refine J_iload rfl (show Dc Y_X11_sheet 45 (.iload 4) 2 47 from ⟨by decide +kernel, rfl⟩) ?_
            refine J_callVv (fun r => r) (show Dc Y_X11_sheet 47 (.invokevirtual 226) 3 50 from ⟨by decide +kernel, rfl⟩) w_m_RX11_226 w_in_X11_fillWorths rfl w_se_X11_fillWorths w_cw_X11_fillWorths (c_X11_fillWorths N x0 x1 x2 x3 x4 g) rfl rfl (by decide) (Nat.le_of_ble_eq_true rfl) (by decide) (by decide) (fun g1 => ?_)
            refine J_aload_n rfl rfl (show Dc Y_X11_sheet 50 (.aload_n 0) 1 51 from ⟨by decide +kernel, rfl⟩) ?_
            refine J_callVi (fun r => r) (fun _ => g1) (show Dc Y_X11_sheet 51 (.invokevirtual 154) 3 54 from ⟨by decide +kernel, rfl⟩) w_m_RX11_154 w_in_X11_sumOfWorths rfl w_se_X11_sumOfWorths w_cw_X11_sumOfWorths (c_X11_sumOfWorths N x0 g1) rfl rfl (by decide) (Nat.le_of_ble_eq_true rfl) (by decide) (by decide) (fun v2 => ?_)
            exact J_reti (show Dc Y_X11_sheet 54 (.ireturn) 1 55 from ⟨by decide +kernel, rfl⟩) rfl (h0 _ _) (by decide) (by decide)
          · refine J_bipush (-2 : Int32) rfl (show Dc Y_X11_sheet 38 (.bipush (-2)) 2 40 from ⟨by decide +kernel, rfl⟩) ?_
            exact J_reti (show Dc Y_X11_sheet 40 (.ireturn) 1 41 from ⟨by decide +kernel, rfl⟩) rfl (h0 _ _) (by decide) (by decide)
        · refine J_aload_n rfl rfl (show Dc Y_X11_sheet 22 (.aload_n 0) 1 23 from ⟨by decide +kernel, rfl⟩) ?_
          refine J_iload_n rfl rfl (show Dc Y_X11_sheet 23 (.iload_n 1) 1 24 from ⟨by decide +kernel, rfl⟩) ?_
          refine J_iconst (0 : Int32) rfl (show Dc Y_X11_sheet 24 (.iconst 0) 1 25 from ⟨by decide +kernel, rfl⟩) ?_
          refine J_iload_n rfl rfl (show Dc Y_X11_sheet 25 (.iload_n 3) 1 26 from ⟨by decide +kernel, rfl⟩) ?_
          refine J_iload rfl (show Dc Y_X11_sheet 26 (.iload 4) 2 28 from ⟨by decide +kernel, rfl⟩) ?_
          refine J_callVv (fun r => r) (show Dc Y_X11_sheet 28 (.invokevirtual 226) 3 31 from ⟨by decide +kernel, rfl⟩) w_m_RX11_226 w_in_X11_fillWorths rfl w_se_X11_fillWorths w_cw_X11_fillWorths (c_X11_fillWorths N x0 x1 (0 : Int32) x3 x4 g) rfl rfl (by decide) (Nat.le_of_ble_eq_true rfl) (by decide) (by decide) (fun g3 => ?_)
          refine J_bipush (-3 : Int32) rfl (show Dc Y_X11_sheet 31 (.bipush (-3)) 2 33 from ⟨by decide +kernel, rfl⟩) ?_
          exact J_reti (show Dc Y_X11_sheet 33 (.ireturn) 1 34 from ⟨by decide +kernel, rfl⟩) rfl (h0 _ _) (by decide) (by decide)
      · refine J_mask [false, false, false, false, false] ?_
        exact j_X11_sheet_15 N g h0

theorem c_X11_sheet {l : Launch} {D : ZD} {B0 : Nat} (N : Nat) (x0 : Nat) (x1 : Int32) (x2 : Int32) (x3 : Int32) (x4 : Int32) (g : ZS) : ∀ r, f_X11_sheet N x0 x1 x2 x3 x4 g = some r → zCt l D B0 yX11_sheet Y_X11_sheet [.ref x0, .int x1, .int x2, .int x3, .int x4] g (some (.int r.1)) r.2 :=
  zCt_ofF (vo := fun r => some (.int r.1)) (so := fun r => r.2) (by decide +kernel) rfl (fun h => by cases h) rfl (Nat.le_of_ble_eq_true rfl) (fun X => j_X11_sheet N x0 x1 x2 x3 x4 g (fun _ _ h => h))

theorem j_X12_sheet_20 {X : ZX} (N : Nat)    (g : ZS) {K : (Int32 × ZS) → Prop} (h0 : ∀ v g, K (v, g) → xK X (some (.int v)) g) : J Y_X12_sheet X 0 0 20 [none, none, none, none, none, none, none, none, none] [] g (f_X12_sheet_20 N g) K := by
  unfold f_X12_sheet_20
  refine J_iconst (-1 : Int32) rfl (show Dc Y_X12_sheet 20 (.iconst (-1)) 1 21 from ⟨by decide +kernel, rfl⟩) ?_
  exact J_reti (show Dc Y_X12_sheet 21 (.ireturn) 1 22 from ⟨by decide +kernel, rfl⟩) rfl (h0 _ _) (by decide) (by decide)

theorem j_X12_sheet_107 {X : ZX} (N : Nat) (x0 : Nat) (x1 : Int32) (x2 : Int32) (x4 : Int32) (x5 : Int32) (x6 : Int32) (x7 : Int32) (s0 : Nat) (s1 : Int32) (s2 : Int32)  (g : ZS) {K : ((Int32 × Int32 × Int32 × ZS) ⊕ (Int32 × ZS)) → Prop} (h0 : ∀ v g, K (.inr (v, g)) → xK X (some (.int v)) g) (hL43 : ∀ s, K (.inl s) → zG Y_X12_sheet X 0 0 43 [some (.ref x0), some (.int x1), some (.int x2), none, some (.int x4), some (.int s.1), some (.int s.2.1), some (.int s.2.2.1), none] [] s.2.2.2) : J Y_X12_sheet X 0 0 107 [some (.ref x0), some (.int x1), some (.int x2), none, some (.int x4), some (.int x5), some (.int x6), some (.int x7), none] [.int s2, .int s1, .ref s0] g (f_X12_sheet_107 N x0 x1 x2 x4 x5 x6 x7 s0 s1 s2 g) K := by
  unfold f_X12_sheet_107
  refine J_iast (show Dc Y_X12_sheet 107 (.iastore) 1 108 from ⟨by decide +kernel, rfl⟩) (fun g1 => ?_)
  refine J_iload rfl (show Dc Y_X12_sheet 108 (.iload 5) 2 110 from ⟨by decide +kernel, rfl⟩) ?_
  refine J_aload_n rfl rfl (show Dc Y_X12_sheet 110 (.aload_n 0) 1 111 from ⟨by decide +kernel, rfl⟩) ?_
  refine J_getR (show Dc Y_X12_sheet 111 (.getfield 16) 3 114 from ⟨by decide +kernel, rfl⟩) w_f_RX12_16 rfl (fun v2 => ?_)
  refine J_iload rfl (show Dc Y_X12_sheet 114 (.iload 7) 2 116 from ⟨by decide +kernel, rfl⟩) ?_
  refine J_iald (show Dc Y_X12_sheet 116 (.iaload) 1 117 from ⟨by decide +kernel, rfl⟩) (fun v3 => ?_)
  refine J_iadd (show Dc Y_X12_sheet 117 (.iadd) 1 118 from ⟨by decide +kernel, rfl⟩) ?_
  refine J_istore [some (.ref x0), some (.int x1), some (.int x2), none, some (.int x4), some (.int (x5 + v3)), some (.int x6), some (.int x7), none] (show Dc Y_X12_sheet 118 (.istore 5) 2 120 from ⟨by decide +kernel, rfl⟩) (by decide) rfl rfl ?_
  refine J_iload rfl (show Dc Y_X12_sheet 120 (.iload 6) 2 122 from ⟨by decide +kernel, rfl⟩) ?_
  refine J_iload rfl (show Dc Y_X12_sheet 122 (.iload 4) 2 124 from ⟨by decide +kernel, rfl⟩) ?_
  refine J_iadd (show Dc Y_X12_sheet 124 (.iadd) 1 125 from ⟨by decide +kernel, rfl⟩) ?_
  refine J_istore [some (.ref x0), some (.int x1), some (.int x2), none, some (.int x4), some (.int (x5 + v3)), some (.int (x6 + x4)), some (.int x7), none] (show Dc Y_X12_sheet 125 (.istore 6) 2 127 from ⟨by decide +kernel, rfl⟩) (by decide) rfl rfl ?_
  refine J_iinc (1 : Int32) [some (.ref x0), some (.int x1), some (.int x2), none, some (.int x4), some (.int (x5 + v3)), some (.int (x6 + x4)), some (.int (x7 + (1 : Int32))), none] (show Dc Y_X12_sheet 127 (.iinc 7 1) 3 130 from ⟨by decide +kernel, rfl⟩) rfl rfl (by decide) rfl rfl ?_
  refine J_goto (tg := 43) (show Dc Y_X12_sheet 130 (.goto (-87)) 3 133 from ⟨by decide +kernel, rfl⟩) (by decide) ?_
  exact J_leaf (fun h => hL43 (x5 + v3, x6 + x4, x7 + (1 : Int32), g1) h)

theorem j_X12_sheet_92 {X : ZX} (N : Nat) (x0 : Nat) (x1 : Int32) (x2 : Int32) (x4 : Int32) (x5 : Int32) (x6 : Int32) (x7 : Int32) (s0 : Nat) (s1 : Int32)  (g : ZS) {K : ((Int32 × Int32 × Int32 × ZS) ⊕ (Int32 × ZS)) → Prop} (h0 : ∀ v g, K (.inr (v, g)) → xK X (some (.int v)) g) (hL43 : ∀ s, K (.inl s) → zG Y_X12_sheet X 0 0 43 [some (.ref x0), some (.int x1), some (.int x2), none, some (.int x4), some (.int s.1), some (.int s.2.1), some (.int s.2.2.1), none] [] s.2.2.2) : J Y_X12_sheet X 0 0 92 [some (.ref x0), some (.int x1), some (.int x2), none, some (.int x4), some (.int x5), some (.int x6), some (.int x7), none] [.int s1, .ref s0] g (f_X12_sheet_92 N x0 x1 x2 x4 x5 x6 x7 s0 s1 g) K := by
  unfold f_X12_sheet_92
  refine J_iconst (0 : Int32) rfl (show Dc Y_X12_sheet 92 (.iconst 0) 1 93 from ⟨by decide +kernel, rfl⟩) ?_
  refine J_goto (tg := 107) (show Dc Y_X12_sheet 93 (.goto 14) 3 96 from ⟨by decide +kernel, rfl⟩) (by decide) ?_
  exact j_X12_sheet_107 N x0 x1 x2 x4 x5 x6 x7 s0 s1 (0 : Int32) g h0 hL43

theorem j_X12_sheet_73 {X : ZX} (N : Nat) (x0 : Nat) (x1 : Int32) (x2 : Int32) (x4 : Int32) (x5 : Int32) (x6 : Int32) (x7 : Int32) (s0 : Int32)  (g : ZS) {K : ((Int32 × Int32 × Int32 × ZS) ⊕ (Int32 × ZS)) → Prop} (h0 : ∀ v g, K (.inr (v, g)) → xK X (some (.int v)) g) (hL43 : ∀ s, K (.inl s) → zG Y_X12_sheet X 0 0 43 [some (.ref x0), some (.int x1), some (.int x2), none, some (.int x4), some (.int s.1), some (.int s.2.1), some (.int s.2.2.1), none] [] s.2.2.2) : J Y_X12_sheet X 0 0 73 [some (.ref x0), some (.int x1), some (.int x2), none, some (.int x4), some (.int x5), some (.int x6), some (.int x7), none] [.int s0] g (f_X12_sheet_73 N x0 x1 x2 x4 x5 x6 x7 s0 g) K := by
  unfold f_X12_sheet_73
  refine J_istore [some (.ref x0), some (.int x1), some (.int x2), none, some (.int x4), some (.int x5), some (.int x6), some (.int x7), some (.int s0)] (show Dc Y_X12_sheet 73 (.istore 8) 2 75 from ⟨by decide +kernel, rfl⟩) (by decide) rfl rfl ?_
  refine J_aload_n rfl rfl (show Dc Y_X12_sheet 75 (.aload_n 0) 1 76 from ⟨by decide +kernel, rfl⟩) ?_
  refine J_getR (show Dc Y_X12_sheet 76 (.getfield 16) 3 79 from ⟨by decide +kernel, rfl⟩) w_f_RX12_16 rfl (fun v1 => ?_)
  refine J_iload rfl (show Dc Y_X12_sheet 79 (.iload 7) 2 81 from ⟨by decide +kernel, rfl⟩) ?_
  refine J_iload_n rfl rfl (show Dc Y_X12_sheet 81 (.iload_n 1) 1 82 from ⟨by decide +kernel, rfl⟩) ?_
  refine J_iconst (3 : Int32) rfl (show Dc Y_X12_sheet 82 (.iconst 3) 1 83 from ⟨by decide +kernel, rfl⟩) ?_
  refine J_icmp_eq (tg := 92) (show Dc Y_X12_sheet 83 (.if_icmp .eq 9) 3 86 from ⟨by decide +kernel, rfl⟩) (by decide) (fun h => ?_) (fun h => ?_)
  · refine J_mask [true, true, true, false, true, true, true, true, false] ?_
    exact j_X12_sheet_92 N x0 x1 x2 x4 x5 x6 x7 v1 x7 g h0 hL43
  · refine J_iload rfl (show Dc Y_X12_sheet 86 (.iload 7) 2 88 from ⟨by decide +kernel, rfl⟩) ?_
    refine J_iload_n rfl rfl (show Dc Y_X12_sheet 88 (.iload_n 2) 1 89 from ⟨by decide +kernel, rfl⟩) ?_
    refine J_icmp_lt (tg := 96) (show Dc Y_X12_sheet 89 (.if_icmp .lt 7) 3 92 from ⟨by decide +kernel, rfl⟩) (by decide) (fun h => ?_) (fun h => ?_)
    · refine J_iconst (0 : Int32) rfl (show Dc Y_X12_sheet 96 (.iconst 0) 1 97 from ⟨by decide +kernel, rfl⟩) ?_
      refine J_bipush (9 : Int32) rfl (show Dc Y_X12_sheet 97 (.bipush 9) 2 99 from ⟨by decide +kernel, rfl⟩) ?_
      refine J_iload rfl (show Dc Y_X12_sheet 99 (.iload 8) 2 101 from ⟨by decide +kernel, rfl⟩) ?_
      refine J_callSi (fun r => r) (fun _ => g) (show Dc Y_X12_sheet 101 (.invokestatic 229) 3 104 from ⟨by decide +kernel, rfl⟩) w_m_RX12_229 w_st_J9_min_7cf53 w_cw_J9_min_7cf53 (c_J9_min_7cf53 (9 : Int32) s0 g) rfl rfl (by decide) (Nat.le_of_ble_eq_true rfl) (by decide) (by decide) (fun v2 => ?_)
      refine J_callSi (fun r => r) (fun _ => g) (show Dc Y_X12_sheet 104 (.invokestatic 250) 3 107 from ⟨by decide +kernel, rfl⟩) w_m_RX12_250 w_st_J9_max_7cf53 w_cw_J9_max_7cf53 (c_J9_max_7cf53 (0 : Int32) v2 g) rfl rfl (by decide) (Nat.le_of_ble_eq_true rfl) (by decide) (by decide) (fun v3 => ?_)
      refine J_mask [true, true, true, false, true, true, true, true, false] ?_
      exact j_X12_sheet_107 N x0 x1 x2 x4 x5 x6 x7 v1 x7 v3 g h0 hL43
    · refine J_mask [true, true, true, false, true, true, true, true, false] ?_
      exact j_X12_sheet_92 N x0 x1 x2 x4 x5 x6 x7 v1 x7 g h0 hL43

theorem j_X12_sheet_145 {X : ZX} (N : Nat)  (s0 : Int32)  (g : ZS) {K : (Int32 × ZS) → Prop} (h0 : ∀ v g, K (v, g) → xK X (some (.int v)) g) : J Y_X12_sheet X 0 0 145 [none, none, none, none, none, none, none, none, none] [.int s0] g (f_X12_sheet_145 N s0 g) K := by
  unfold f_X12_sheet_145
  exact J_reti (show Dc Y_X12_sheet 145 (.ireturn) 1 146 from ⟨by decide +kernel, rfl⟩) rfl (h0 _ _) (by decide) (by decide)

theorem j_X12_sheet_43 {X : ZX} (N : Nat) (x0 : Nat) (x1 : Int32) (x2 : Int32) (x4 : Int32) (x5 : Int32) (x6 : Int32) (x7 : Int32)   (g : ZS) {K : ((Int32 × Int32 × Int32 × ZS) ⊕ (Int32 × ZS)) → Prop} (h0 : ∀ v g, K (.inr (v, g)) → xK X (some (.int v)) g) (hL43 : ∀ s, K (.inl s) → zG Y_X12_sheet X 0 0 43 [some (.ref x0), some (.int x1), some (.int x2), none, some (.int x4), some (.int s.1), some (.int s.2.1), some (.int s.2.2.1), none] [] s.2.2.2) : J Y_X12_sheet X 0 0 43 [some (.ref x0), some (.int x1), some (.int x2), none, some (.int x4), some (.int x5), some (.int x6), some (.int x7), none] [] g (f_X12_sheet_43 N x0 x1 x2 x4 x5 x6 x7 g) K := by
  unfold f_X12_sheet_43
  refine J_iload rfl (show Dc Y_X12_sheet 43 (.iload 7) 2 45 from ⟨by decide +kernel, rfl⟩) ?_
  refine J_bipush (8 : Int32) rfl (show Dc Y_X12_sheet 45 (.bipush 8) 2 47 from ⟨by decide +kernel, rfl⟩) ?_
  refine J_icmp_ge (tg := 133) (show Dc Y_X12_sheet 47 (.if_icmp .ge 86) 3 50 from ⟨by decide +kernel, rfl⟩) (by decide) (fun h => ?_) (fun h => ?_)
  · refine J_map (f := Sum.inr) (fun _ h => h) ?_
    refine J_iload_n rfl rfl (show Dc Y_X12_sheet 133 (.iload_n 1) 1 134 from ⟨by decide +kernel, rfl⟩) ?_
    refine J_iconst (3 : Int32) rfl (show Dc Y_X12_sheet 134 (.iconst 3) 1 135 from ⟨by decide +kernel, rfl⟩) ?_
    refine J_icmp_ne (tg := 143) (show Dc Y_X12_sheet 135 (.if_icmp .ne 8) 3 138 from ⟨by decide +kernel, rfl⟩) (by decide) (fun h => ?_) (fun h => ?_)
    · refine J_iload rfl (show Dc Y_X12_sheet 143 (.iload 5) 2 145 from ⟨by decide +kernel, rfl⟩) ?_
      refine J_mask [false, false, false, false, false, false, false, false, false] ?_
      exact j_X12_sheet_145 (K := fun o => K (.inr o)) N x5 g h0
    · refine J_bipush (-3 : Int32) rfl (show Dc Y_X12_sheet 138 (.bipush (-3)) 2 140 from ⟨by decide +kernel, rfl⟩) ?_
      refine J_goto (tg := 145) (show Dc Y_X12_sheet 140 (.goto 5) 3 143 from ⟨by decide +kernel, rfl⟩) (by decide) ?_
      refine J_mask [false, false, false, false, false, false, false, false, false] ?_
      exact j_X12_sheet_145 (K := fun o => K (.inr o)) N (-3 : Int32) g h0
  · refine J_iload_n rfl rfl (show Dc Y_X12_sheet 50 (.iload_n 1) 1 51 from ⟨by decide +kernel, rfl⟩) ?_
    refine J_if_ne (tg := 60) (show Dc Y_X12_sheet 51 (.ifCond .ne 9) 3 54 from ⟨by decide +kernel, rfl⟩) (by decide) (fun h => ?_) (fun h => ?_)
    · refine J_iload_n rfl rfl (show Dc Y_X12_sheet 60 (.iload_n 1) 1 61 from ⟨by decide +kernel, rfl⟩) ?_
      refine J_iconst (1 : Int32) rfl (show Dc Y_X12_sheet 61 (.iconst 1) 1 62 from ⟨by decide +kernel, rfl⟩) ?_
      refine J_icmp_ne (tg := 71) (show Dc Y_X12_sheet 62 (.if_icmp .ne 9) 3 65 from ⟨by decide +kernel, rfl⟩) (by decide) (fun h => ?_) (fun h => ?_)
      · refine J_iload rfl (show Dc Y_X12_sheet 71 (.iload 6) 2 73 from ⟨by decide +kernel, rfl⟩) ?_
        exact j_X12_sheet_73 N x0 x1 x2 x4 x5 x6 x7 x6 g h0 hL43
      · refine J_iload rfl (show Dc Y_X12_sheet 65 (.iload 6) 2 67 from ⟨by decide +kernel, rfl⟩) ?_
        refine J_i2s (show Dc Y_X12_sheet 67 (.i2s) 1 68 from ⟨by decide +kernel, rfl⟩) ?_
        refine J_goto (tg := 73) (show Dc Y_X12_sheet 68 (.goto 5) 3 71 from ⟨by decide +kernel, rfl⟩) (by decide) ?_
        exact j_X12_sheet_73 N x0 x1 x2 x4 x5 x6 x7 x6.toInt16.toInt32 g h0 hL43
    · refine J_iload rfl (show Dc Y_X12_sheet 54 (.iload 6) 2 56 from ⟨by decide +kernel, rfl⟩) ?_
      refine J_i2b (show Dc Y_X12_sheet 56 (.i2b) 1 57 from ⟨by decide +kernel, rfl⟩) ?_
      refine J_goto (tg := 73) (show Dc Y_X12_sheet 57 (.goto 16) 3 60 from ⟨by decide +kernel, rfl⟩) (by decide) ?_
      exact j_X12_sheet_73 N x0 x1 x2 x4 x5 x6 x7 x6.toInt8.toInt32 g h0 hL43

theorem j_X12_sheet_34 {X : ZX} (N : Nat) (x0 : Nat) (x1 : Int32) (x2 : Int32) (x3 : Int32) (x4 : Int32)   (g : ZS) {K : (Int32 × ZS) → Prop} (h0 : ∀ v g, K (v, g) → xK X (some (.int v)) g) : J Y_X12_sheet X 0 0 34 [some (.ref x0), some (.int x1), some (.int x2), some (.int x3), some (.int x4), none, none, none, none] [] g (f_X12_sheet_34 N x0 x1 x2 x3 x4 g) K := by
  unfold f_X12_sheet_34
  refine J_iconst (0 : Int32) rfl (show Dc Y_X12_sheet 34 (.iconst 0) 1 35 from ⟨by decide +kernel, rfl⟩) ?_
  refine J_istore [some (.ref x0), some (.int x1), some (.int x2), some (.int x3), some (.int x4), some (.int (0 : Int32)), none, none, none] (show Dc Y_X12_sheet 35 (.istore 5) 2 37 from ⟨by decide +kernel, rfl⟩) (by decide) rfl rfl ?_
  refine J_iload_n rfl rfl (show Dc Y_X12_sheet 37 (.iload_n 3) 1 38 from ⟨by decide +kernel, rfl⟩) ?_
  refine J_istore [some (.ref x0), some (.int x1), some (.int x2), some (.int x3), some (.int x4), some (.int (0 : Int32)), some (.int x3), none, none] (show Dc Y_X12_sheet 38 (.istore 6) 2 40 from ⟨by decide +kernel, rfl⟩) (by decide) rfl rfl ?_
  refine J_iconst (0 : Int32) rfl (show Dc Y_X12_sheet 40 (.iconst 0) 1 41 from ⟨by decide +kernel, rfl⟩) ?_
  refine J_istore [some (.ref x0), some (.int x1), some (.int x2), some (.int x3), some (.int x4), some (.int (0 : Int32)), some (.int x3), some (.int (0 : Int32)), none] (show Dc Y_X12_sheet 41 (.istore 7) 2 43 from ⟨by decide +kernel, rfl⟩) (by decide) rfl rfl ?_
  refine J_mask [true, true, true, false, true, true, true, true, false] ?_
  exact J_loop (X := X) (K := K) (uc := fun _ => 0) (us := fun _ => 0) (lf := fun s => [some (.ref x0), some (.int x1), some (.int x2), none, some (.int x4), some (.int s.1), some (.int s.2.1), some (.int s.2.2.1), none]) (gf := fun s => s.2.2.2) (fun s => j_X12_sheet_43 (K := zKl Y_X12_sheet X 43 (fun _ => 0) (fun _ => 0) (fun s => [some (.ref x0), some (.int x1), some (.int x2), none, some (.int x4), some (.int s.1), some (.int s.2.1), some (.int s.2.2.1), none]) (fun s => s.2.2.2) K) N x0 x1 x2 x4 s.1 s.2.1 s.2.2.1 s.2.2.2 h0 (fun s h => h)) N ((0 : Int32), x3, (0 : Int32), g)

theorem j_X12_sheet {X : ZX} (N : Nat) (x0 : Nat) (x1 : Int32) (x2 : Int32) (x3 : Int32) (x4 : Int32)   (g : ZS) {K : (Int32 × ZS) → Prop} (h0 : ∀ v g, K (v, g) → xK X (some (.int v)) g) : J Y_X12_sheet X 0 0 0 [some (.ref x0), some (.int x1), some (.int x2), some (.int x3), some (.int x4), none, none, none, none] [] g (f_X12_sheet N x0 x1 x2 x3 x4 g) K := by
  unfold f_X12_sheet
  refine J_aload_n rfl rfl (show Dc Y_X12_sheet 0 (.aload_n 0) 1 1 from ⟨by decide +kernel, rfl⟩) ?_
  refine J_iconst (0 : Int32) rfl (show Dc Y_X12_sheet 1 (.iconst 0) 1 2 from ⟨by decide +kernel, rfl⟩) ?_
  refine J_putI (show Dc Y_X12_sheet 2 (.putfield 109) 3 5 from ⟨by decide +kernel, rfl⟩) w_f_RX12_109 rfl rfl (fun g1 => ?_) (fun h => by cases h)
  refine J_iload_n rfl rfl (show Dc Y_X12_sheet 5 (.iload_n 1) 1 6 from ⟨by decide +kernel, rfl⟩) ?_
  refine J_iconst (0 : Int32) rfl (show Dc Y_X12_sheet 6 (.iconst 0) 1 7 from ⟨by decide +kernel, rfl⟩) ?_
  refine J_iconst (3 : Int32) rfl (show Dc Y_X12_sheet 7 (.iconst 3) 1 8 from ⟨by decide +kernel, rfl⟩) ?_
  refine J_callSi (fun r => r) (fun _ => g1) (show Dc Y_X12_sheet 8 (.invokestatic 119) 3 11 from ⟨by decide +kernel, rfl⟩) w_m_RX12_119 w_st_X12_in w_cw_X12_in (c_X12_in x1 (0 : Int32) (3 : Int32) g1) rfl rfl (by decide) (Nat.le_of_ble_eq_true rfl) (by decide) (by decide) (fun v2 => ?_)
  refine J_if_eq (tg := 20) (show Dc Y_X12_sheet 11 (.ifCond .eq 9) 3 14 from ⟨by decide +kernel, rfl⟩) (by decide) (fun h => ?_) (fun h => ?_)
  · refine J_mask [false, false, false, false, false, false, false, false, false] ?_
    exact j_X12_sheet_20 N g1 h0
  · refine J_iload_n rfl rfl (show Dc Y_X12_sheet 14 (.iload_n 2) 1 15 from ⟨by decide +kernel, rfl⟩) ?_
    refine J_bipush (8 : Int32) rfl (show Dc Y_X12_sheet 15 (.bipush 8) 2 17 from ⟨by decide +kernel, rfl⟩) ?_
    refine J_icmp_le (tg := 22) (show Dc Y_X12_sheet 17 (.if_icmp .le 5) 3 20 from ⟨by decide +kernel, rfl⟩) (by decide) (fun h => ?_) (fun h => ?_)
    · refine J_iload_n rfl rfl (show Dc Y_X12_sheet 22 (.iload_n 1) 1 23 from ⟨by decide +kernel, rfl⟩) ?_
      refine J_iconst (3 : Int32) rfl (show Dc Y_X12_sheet 23 (.iconst 3) 1 24 from ⟨by decide +kernel, rfl⟩) ?_
      refine J_icmp_ge (tg := 34) (show Dc Y_X12_sheet 24 (.if_icmp .ge 10) 3 27 from ⟨by decide +kernel, rfl⟩) (by decide) (fun h => ?_) (fun h => ?_)
      · exact j_X12_sheet_34 N x0 x1 x2 x3 x4 g1 h0
      · refine J_iload_n rfl rfl (show Dc Y_X12_sheet 27 (.iload_n 2) 1 28 from ⟨by decide +kernel, rfl⟩) ?_
        refine J_if_ge (tg := 34) (show Dc Y_X12_sheet 28 (.ifCond .ge 6) 3 31 from ⟨by decide +kernel, rfl⟩) (by decide) (fun h => ?_) (fun h => ?_)
        · exact j_X12_sheet_34 N x0 x1 x2 x3 x4 g1 h0
        · refine J_bipush (-2 : Int32) rfl (show Dc Y_X12_sheet 31 (.bipush (-2)) 2 33 from ⟨by decide +kernel, rfl⟩) ?_
          exact J_reti (show Dc Y_X12_sheet 33 (.ireturn) 1 34 from ⟨by decide +kernel, rfl⟩) rfl (h0 _ _) (by decide) (by decide)
    · refine J_mask [false, false, false, false, false, false, false, false, false] ?_
      exact j_X12_sheet_20 N g1 h0

theorem c_X12_sheet {l : Launch} {D : ZD} {B0 : Nat} (N : Nat) (x0 : Nat) (x1 : Int32) (x2 : Int32) (x3 : Int32) (x4 : Int32) (g : ZS) : ∀ r, f_X12_sheet N x0 x1 x2 x3 x4 g = some r → zCt l D B0 yX12_sheet Y_X12_sheet [.ref x0, .int x1, .int x2, .int x3, .int x4] g (some (.int r.1)) r.2 :=
  zCt_ofF (vo := fun r => some (.int r.1)) (so := fun r => r.2) (by decide +kernel) rfl (fun h => by cases h) rfl (Nat.le_of_ble_eq_true rfl) (fun X => j_X12_sheet N x0 x1 x2 x3 x4 g (fun _ _ h => h))

theorem j_X0_take_30 {X : ZX} (x0 : Nat) (x1 : Int32)   (g : ZS) {K : ZS → Prop} (h0 : ∀ g, K g → xK X none g) : J Y_X0_take X 0 0 30 [some (.ref x0), some (.int x1)] [] g (f_X0_take_30 x0 x1 g) K := by
  unfold f_X0_take_30
  refine J_aload_n rfl rfl (show Dc Y_X0_take 30 (.aload_n 0) 1 31 from ⟨by decide +kernel, rfl⟩) ?_
  refine J_getR (show Dc Y_X0_take 31 (.getfield 18) 3 34 from ⟨by decide +kernel, rfl⟩) w_f_RX0_18 rfl (fun v1 => ?_)
  refine J_iload_n rfl rfl (show Dc Y_X0_take 34 (.iload_n 1) 1 35 from ⟨by decide +kernel, rfl⟩) ?_
  refine J_aload_n rfl rfl (show Dc Y_X0_take 35 (.aload_n 0) 1 36 from ⟨by decide +kernel, rfl⟩) ?_
  refine J_getI (show Dc Y_X0_take 36 (.getfield 41) 3 39 from ⟨by decide +kernel, rfl⟩) w_f_RX0_41 rfl (fun v2 => ?_)
  refine J_iast (show Dc Y_X0_take 39 (.iastore) 1 40 from ⟨by decide +kernel, rfl⟩) (fun g3 => ?_)
  refine J_aload_n rfl rfl (show Dc Y_X0_take 40 (.aload_n 0) 1 41 from ⟨by decide +kernel, rfl⟩) ?_
  refine J_getR (show Dc Y_X0_take 41 (.getfield 9) 3 44 from ⟨by decide +kernel, rfl⟩) w_f_RX0_9 rfl (fun v4 => ?_)
  refine J_iload_n rfl rfl (show Dc Y_X0_take 44 (.iload_n 1) 1 45 from ⟨by decide +kernel, rfl⟩) ?_
  refine J_dup2 rfl rfl (show Dc Y_X0_take 45 (.dup2) 1 46 from ⟨by decide +kernel, rfl⟩) ?_
  refine J_iald (show Dc Y_X0_take 46 (.iaload) 1 47 from ⟨by decide +kernel, rfl⟩) (fun v5 => ?_)
  refine J_iconst (1 : Int32) rfl (show Dc Y_X0_take 47 (.iconst 1) 1 48 from ⟨by decide +kernel, rfl⟩) ?_
  refine J_iadd (show Dc Y_X0_take 48 (.iadd) 1 49 from ⟨by decide +kernel, rfl⟩) ?_
  refine J_iast (show Dc Y_X0_take 49 (.iastore) 1 50 from ⟨by decide +kernel, rfl⟩) (fun g6 => ?_)
  refine J_aload_n rfl rfl (show Dc Y_X0_take 50 (.aload_n 0) 1 51 from ⟨by decide +kernel, rfl⟩) ?_
  refine J_dup rfl (show Dc Y_X0_take 51 (.dup) 1 52 from ⟨by decide +kernel, rfl⟩) ?_
  refine J_getI (show Dc Y_X0_take 52 (.getfield 41) 3 55 from ⟨by decide +kernel, rfl⟩) w_f_RX0_41 rfl (fun v7 => ?_)
  refine J_iconst (1 : Int32) rfl (show Dc Y_X0_take 55 (.iconst 1) 1 56 from ⟨by decide +kernel, rfl⟩) ?_
  refine J_iadd (show Dc Y_X0_take 56 (.iadd) 1 57 from ⟨by decide +kernel, rfl⟩) ?_
  refine J_putI (show Dc Y_X0_take 57 (.putfield 41) 3 60 from ⟨by decide +kernel, rfl⟩) w_f_RX0_41 rfl rfl (fun g8 => ?_) (fun h => by cases h)
  exact J_ret0 (show Dc Y_X0_take 60 (.return_) 1 61 from ⟨by decide +kernel, rfl⟩) rfl (h0 _) (by decide) (by decide)

theorem j_X0_take {X : ZX} (x0 : Nat) (x1 : Int32)   (g : ZS) {K : ZS → Prop} (h0 : ∀ g, K g → xK X none g) : J Y_X0_take X 0 0 0 [some (.ref x0), some (.int x1)] [] g (f_X0_take x0 x1 g) K := by
  unfold f_X0_take
  refine J_aload_n rfl rfl (show Dc Y_X0_take 0 (.aload_n 0) 1 1 from ⟨by decide +kernel, rfl⟩) ?_
  refine J_getI (show Dc Y_X0_take 1 (.getfield 41) 3 4 from ⟨by decide +kernel, rfl⟩) w_f_RX0_41 rfl (fun v1 => ?_)
  refine J_sipush (9999 : Int32) rfl (show Dc Y_X0_take 4 (.sipush 9999) 3 7 from ⟨by decide +kernel, rfl⟩) ?_
  refine J_icmp_lt (tg := 11) (show Dc Y_X0_take 7 (.if_icmp .lt 4) 3 10 from ⟨by decide +kernel, rfl⟩) (by decide) (fun h => ?_) (fun h => ?_)
  · refine J_aload_n rfl rfl (show Dc Y_X0_take 11 (.aload_n 0) 1 12 from ⟨by decide +kernel, rfl⟩) ?_
    refine J_getR (show Dc Y_X0_take 12 (.getfield 9) 3 15 from ⟨by decide +kernel, rfl⟩) w_f_RX0_9 rfl (fun v2 => ?_)
    refine J_iload_n rfl rfl (show Dc Y_X0_take 15 (.iload_n 1) 1 16 from ⟨by decide +kernel, rfl⟩) ?_
    refine J_iald (show Dc Y_X0_take 16 (.iaload) 1 17 from ⟨by decide +kernel, rfl⟩) (fun v3 => ?_)
    refine J_if_ne (tg := 30) (show Dc Y_X0_take 17 (.ifCond .ne 13) 3 20 from ⟨by decide +kernel, rfl⟩) (by decide) (fun h => ?_) (fun h => ?_)
    · exact j_X0_take_30 x0 x1 g h0
    · refine J_aload_n rfl rfl (show Dc Y_X0_take 20 (.aload_n 0) 1 21 from ⟨by decide +kernel, rfl⟩) ?_
      refine J_getR (show Dc Y_X0_take 21 (.getfield 15) 3 24 from ⟨by decide +kernel, rfl⟩) w_f_RX0_15 rfl (fun v4 => ?_)
      refine J_iload_n rfl rfl (show Dc Y_X0_take 24 (.iload_n 1) 1 25 from ⟨by decide +kernel, rfl⟩) ?_
      refine J_aload_n rfl rfl (show Dc Y_X0_take 25 (.aload_n 0) 1 26 from ⟨by decide +kernel, rfl⟩) ?_
      refine J_getI (show Dc Y_X0_take 26 (.getfield 41) 3 29 from ⟨by decide +kernel, rfl⟩) w_f_RX0_41 rfl (fun v5 => ?_)
      refine J_iast (show Dc Y_X0_take 29 (.iastore) 1 30 from ⟨by decide +kernel, rfl⟩) (fun g6 => ?_)
      exact j_X0_take_30 x0 x1 g6 h0
  · exact J_ret0 (show Dc Y_X0_take 10 (.return_) 1 11 from ⟨by decide +kernel, rfl⟩) rfl (h0 _) (by decide) (by decide)

theorem c_X0_take {l : Launch} {D : ZD} {B0 : Nat} (x0 : Nat) (x1 : Int32) (g : ZS) : ∀ r, f_X0_take x0 x1 g = some r → zCt l D B0 yX0_take Y_X0_take [.ref x0, .int x1] g none r :=
  zCt_ofF (vo := fun _ => none) (so := fun r => r) (by decide +kernel) rfl (fun h => by cases h) rfl (Nat.le_of_ble_eq_true rfl) (fun X => j_X0_take x0 x1 g (fun _ h => h))

theorem j_X11_listenOn_23 {X : ZX}    (g : ZS) {K : ZS → Prop} (h0 : ∀ g, K g → xK X none g) : J Y_X11_listenOn X 0 0 23 [none, none, none] [] g (f_X11_listenOn_23 g) K := by
  unfold f_X11_listenOn_23
  exact J_ret0 (show Dc Y_X11_listenOn 23 (.return_) 1 24 from ⟨by decide +kernel, rfl⟩) rfl (h0 _) (by decide) (by decide)

theorem j_X11_listenOn {X : ZX} (x0 : Nat) (x1 : Nat) (x2 : Int32)   (g : ZS) {K : ZS → Prop} (h0 : ∀ g, K g → xK X none g) : J Y_X11_listenOn X 0 0 0 [some (.ref x0), some (.ref x1), some (.int x2)] [] g (f_X11_listenOn x0 x1 x2 g) K := by
  unfold f_X11_listenOn
  refine J_aload_n rfl rfl (show Dc Y_X11_listenOn 0 (.aload_n 1) 1 1 from ⟨by decide +kernel, rfl⟩) ?_
  refine J_getI (show Dc Y_X11_listenOn 1 (.getfield 181) 3 4 from ⟨by decide +kernel, rfl⟩) w_f_RX11_181 rfl (fun v1 => ?_)
  refine J_if_ne (tg := 23) (show Dc Y_X11_listenOn 4 (.ifCond .ne 19) 3 7 from ⟨by decide +kernel, rfl⟩) (by decide) (fun h => ?_) (fun h => ?_)
  · refine J_mask [false, false, false] ?_
    exact j_X11_listenOn_23 g h0
  · refine J_aload_n rfl rfl (show Dc Y_X11_listenOn 7 (.aload_n 1) 1 8 from ⟨by decide +kernel, rfl⟩) ?_
    refine J_aload_n rfl rfl (show Dc Y_X11_listenOn 8 (.aload_n 0) 1 9 from ⟨by decide +kernel, rfl⟩) ?_
    refine J_getR (show Dc Y_X11_listenOn 9 (.getfield 26) 3 12 from ⟨by decide +kernel, rfl⟩) w_f_RX11_26 rfl (fun v2 => ?_)
    refine J_aload_n rfl rfl (show Dc Y_X11_listenOn 12 (.aload_n 1) 1 13 from ⟨by decide +kernel, rfl⟩) ?_
    refine J_getI (show Dc Y_X11_listenOn 13 (.getfield 175) 3 16 from ⟨by decide +kernel, rfl⟩) w_f_RX11_175 rfl (fun v3 => ?_)
    refine J_iload_n rfl rfl (show Dc Y_X11_listenOn 16 (.iload_n 2) 1 17 from ⟨by decide +kernel, rfl⟩) ?_
    refine J_callVi (fun r => r) (fun _ => g) (show Dc Y_X11_listenOn 17 (.invokevirtual 222) 3 20 from ⟨by decide +kernel, rfl⟩) w_m_RX11_222 w_in_X2_wordOn rfl w_se_X2_wordOn w_cw_X2_wordOn (c_X2_wordOn v2 v3 x2 g) rfl rfl (by decide) (Nat.le_of_ble_eq_true rfl) (by decide) (by decide) (fun v4 => ?_)
    refine J_callVv (fun r => r) (show Dc Y_X11_listenOn 20 (.invokevirtual 267) 3 23 from ⟨by decide +kernel, rfl⟩) w_m_RX11_267 w_in_X0_take rfl w_se_X0_take w_cw_X0_take (c_X0_take x1 v4 g) rfl rfl (by decide) (Nat.le_of_ble_eq_true rfl) (by decide) (by decide) (fun g5 => ?_)
    refine J_mask [false, false, false] ?_
    exact j_X11_listenOn_23 g5 h0

theorem c_X11_listenOn {l : Launch} {D : ZD} {B0 : Nat} (x0 : Nat) (x1 : Nat) (x2 : Int32) (g : ZS) : ∀ r, f_X11_listenOn x0 x1 x2 g = some r → zCt l D B0 yX11_listenOn Y_X11_listenOn [.ref x0, .ref x1, .int x2] g none r :=
  zCt_ofF (vo := fun _ => none) (so := fun r => r) (by decide +kernel) rfl (fun h => by cases h) rfl (Nat.le_of_ble_eq_true rfl) (fun X => j_X11_listenOn x0 x1 x2 g (fun _ h => h))

theorem j_X11_passDays_10 {X : ZX} (N : Nat) (x0 : Nat) (x1 : Nat) (x2 : Int32) (x3 : Int32) (x4 : Int32)   (g : ZS) {K : ((Int32 × ZS) ⊕ ((Int32 × ZS) ⊕ (Int32 × ZS))) → Prop} (h0 : ∀ v g, K (.inr (.inr (v, g))) → xK X (some (.int v)) g) (hL2 : ∀ s, K (.inr (.inl s)) → zG Y_X11_passDays X 0 0 2 [some (.ref x0), some (.ref x1), some (.int x2), some (.int s.1), none] [] s.2) (hL10 : ∀ s, K (.inl s) → zG Y_X11_passDays X 0 0 10 [some (.ref x0), some (.ref x1), some (.int x2), some (.int x3), some (.int s.1)] [] s.2) : J Y_X11_passDays X 0 0 10 [some (.ref x0), some (.ref x1), some (.int x2), some (.int x3), some (.int x4)] [] g (f_X11_passDays_10 N x0 x1 x2 x3 x4 g) K := by
  unfold f_X11_passDays_10
  refine J_iload rfl (show Dc Y_X11_passDays 10 (.iload 4) 2 12 from ⟨by decide +kernel, rfl⟩) ?_
  refine J_aload_n rfl rfl (show Dc Y_X11_passDays 12 (.aload_n 1) 1 13 from ⟨by decide +kernel, rfl⟩) ?_
  refine J_getI (show Dc Y_X11_passDays 13 (.getfield 146) 3 16 from ⟨by decide +kernel, rfl⟩) w_f_RX11_146 rfl (fun v1 => ?_)
  refine J_icmp_ge (tg := 40) (show Dc Y_X11_passDays 16 (.if_icmp .ge 24) 3 19 from ⟨by decide +kernel, rfl⟩) (by decide) (fun h => ?_) (fun h => ?_)
  · refine J_map (f := Sum.inr) (fun _ h => h) ?_
    refine J_aload_n rfl rfl (show Dc Y_X11_passDays 40 (.aload_n 1) 1 41 from ⟨by decide +kernel, rfl⟩) ?_
    refine J_dup rfl (show Dc Y_X11_passDays 41 (.dup) 1 42 from ⟨by decide +kernel, rfl⟩) ?_
    refine J_getI (show Dc Y_X11_passDays 42 (.getfield 219) 3 45 from ⟨by decide +kernel, rfl⟩) w_f_RX11_219 rfl (fun v2 => ?_)
    refine J_iconst (1 : Int32) rfl (show Dc Y_X11_passDays 45 (.iconst 1) 1 46 from ⟨by decide +kernel, rfl⟩) ?_
    refine J_iadd (show Dc Y_X11_passDays 46 (.iadd) 1 47 from ⟨by decide +kernel, rfl⟩) ?_
    refine J_putI (show Dc Y_X11_passDays 47 (.putfield 219) 3 50 from ⟨by decide +kernel, rfl⟩) w_f_RX11_219 rfl rfl (fun g3 => ?_) (fun h => by cases h)
    refine J_iinc (1 : Int32) [some (.ref x0), some (.ref x1), some (.int x2), some (.int (x3 + (1 : Int32))), some (.int x4)] (show Dc Y_X11_passDays 50 (.iinc 3 1) 3 53 from ⟨by decide +kernel, rfl⟩) rfl rfl (by decide) rfl rfl ?_
    refine J_goto (tg := 2) (show Dc Y_X11_passDays 53 (.goto (-51)) 3 56 from ⟨by decide +kernel, rfl⟩) (by decide) ?_
    refine J_mask [true, true, true, true, false] ?_
    exact J_leaf (fun h => hL2 (x3 + (1 : Int32), g3) h)
  · refine J_aload_n rfl rfl (show Dc Y_X11_passDays 19 (.aload_n 0) 1 20 from ⟨by decide +kernel, rfl⟩) ?_
    refine J_aload_n rfl rfl (show Dc Y_X11_passDays 20 (.aload_n 1) 1 21 from ⟨by decide +kernel, rfl⟩) ?_
    refine J_getR (show Dc Y_X11_passDays 21 (.getfield 171) 3 24 from ⟨by decide +kernel, rfl⟩) w_f_RX11_171 rfl (fun v4 => ?_)
    refine J_iload rfl (show Dc Y_X11_passDays 24 (.iload 4) 2 26 from ⟨by decide +kernel, rfl⟩) ?_
    refine J_aald (kd := 25) (by decide) (by decide) (show Dc Y_X11_passDays 26 (.aaload) 1 27 from ⟨by decide +kernel, rfl⟩) (fun v5 => ?_)
    refine J_aload_n rfl rfl (show Dc Y_X11_passDays 27 (.aload_n 1) 1 28 from ⟨by decide +kernel, rfl⟩) ?_
    refine J_getI (show Dc Y_X11_passDays 28 (.getfield 219) 3 31 from ⟨by decide +kernel, rfl⟩) w_f_RX11_219 rfl (fun v6 => ?_)
    refine J_callVv (fun r => r) (show Dc Y_X11_passDays 31 (.invokevirtual 263) 3 34 from ⟨by decide +kernel, rfl⟩) w_m_RX11_263 w_in_X11_listenOn rfl w_se_X11_listenOn w_cw_X11_listenOn (c_X11_listenOn x0 v5 v6 g) rfl rfl (by decide) (Nat.le_of_ble_eq_true rfl) (by decide) (by decide) (fun g7 => ?_)
    refine J_iinc (1 : Int32) [some (.ref x0), some (.ref x1), some (.int x2), some (.int x3), some (.int (x4 + (1 : Int32)))] (show Dc Y_X11_passDays 34 (.iinc 4 1) 3 37 from ⟨by decide +kernel, rfl⟩) rfl rfl (by decide) rfl rfl ?_
    refine J_goto (tg := 10) (show Dc Y_X11_passDays 37 (.goto (-27)) 3 40 from ⟨by decide +kernel, rfl⟩) (by decide) ?_
    exact J_leaf (fun h => hL10 (x4 + (1 : Int32), g7) h)

theorem j_X11_passDays_2 {X : ZX} (N : Nat) (x0 : Nat) (x1 : Nat) (x2 : Int32) (x3 : Int32)   (g : ZS) {K : ((Int32 × ZS) ⊕ (Int32 × ZS)) → Prop} (h0 : ∀ v g, K (.inr (v, g)) → xK X (some (.int v)) g) (hL2 : ∀ s, K (.inl s) → zG Y_X11_passDays X 0 0 2 [some (.ref x0), some (.ref x1), some (.int x2), some (.int s.1), none] [] s.2) : J Y_X11_passDays X 0 0 2 [some (.ref x0), some (.ref x1), some (.int x2), some (.int x3), none] [] g (f_X11_passDays_2 N x0 x1 x2 x3 g) K := by
  unfold f_X11_passDays_2
  refine J_iload_n rfl rfl (show Dc Y_X11_passDays 2 (.iload_n 3) 1 3 from ⟨by decide +kernel, rfl⟩) ?_
  refine J_iload_n rfl rfl (show Dc Y_X11_passDays 3 (.iload_n 2) 1 4 from ⟨by decide +kernel, rfl⟩) ?_
  refine J_icmp_ge (tg := 56) (show Dc Y_X11_passDays 4 (.if_icmp .ge 52) 3 7 from ⟨by decide +kernel, rfl⟩) (by decide) (fun h => ?_) (fun h => ?_)
  · refine J_map (f := Sum.inr) (fun _ h => h) ?_
    refine J_aload_n rfl rfl (show Dc Y_X11_passDays 56 (.aload_n 1) 1 57 from ⟨by decide +kernel, rfl⟩) ?_
    refine J_getI (show Dc Y_X11_passDays 57 (.getfield 219) 3 60 from ⟨by decide +kernel, rfl⟩) w_f_RX11_219 rfl (fun v1 => ?_)
    exact J_reti (show Dc Y_X11_passDays 60 (.ireturn) 1 61 from ⟨by decide +kernel, rfl⟩) rfl (h0 _ _) (by decide) (by decide)
  · refine J_iconst (0 : Int32) rfl (show Dc Y_X11_passDays 7 (.iconst 0) 1 8 from ⟨by decide +kernel, rfl⟩) ?_
    refine J_istore [some (.ref x0), some (.ref x1), some (.int x2), some (.int x3), some (.int (0 : Int32))] (show Dc Y_X11_passDays 8 (.istore 4) 2 10 from ⟨by decide +kernel, rfl⟩) (by decide) rfl rfl ?_
    exact J_loop (X := X) (K := K) (uc := fun _ => 0) (us := fun _ => 0) (lf := fun s => [some (.ref x0), some (.ref x1), some (.int x2), some (.int x3), some (.int s.1)]) (gf := fun s => s.2) (fun s => j_X11_passDays_10 (K := zKl Y_X11_passDays X 10 (fun _ => 0) (fun _ => 0) (fun s => [some (.ref x0), some (.ref x1), some (.int x2), some (.int x3), some (.int s.1)]) (fun s => s.2) K) N x0 x1 x2 x3 s.1 s.2 h0 hL2 (fun s h => h)) N ((0 : Int32), g)

theorem j_X11_passDays {X : ZX} (N : Nat) (x0 : Nat) (x1 : Nat) (x2 : Int32)   (g : ZS) {K : (Int32 × ZS) → Prop} (h0 : ∀ v g, K (v, g) → xK X (some (.int v)) g) : J Y_X11_passDays X 0 0 0 [some (.ref x0), some (.ref x1), some (.int x2), none, none] [] g (f_X11_passDays N x0 x1 x2 g) K := by
  unfold f_X11_passDays
  refine J_iconst (0 : Int32) rfl (show Dc Y_X11_passDays 0 (.iconst 0) 1 1 from ⟨by decide +kernel, rfl⟩) ?_
  refine J_istore_n [some (.ref x0), some (.ref x1), some (.int x2), some (.int (0 : Int32)), none] (show Dc Y_X11_passDays 1 (.istore_n 3) 1 2 from ⟨by decide +kernel, rfl⟩) rfl (by decide) rfl rfl ?_
  exact J_loop (X := X) (K := K) (uc := fun _ => 0) (us := fun _ => 0) (lf := fun s => [some (.ref x0), some (.ref x1), some (.int x2), some (.int s.1), none]) (gf := fun s => s.2) (fun s => j_X11_passDays_2 (K := zKl Y_X11_passDays X 2 (fun _ => 0) (fun _ => 0) (fun s => [some (.ref x0), some (.ref x1), some (.int x2), some (.int s.1), none]) (fun s => s.2) K) N x0 x1 x2 s.1 s.2 h0 (fun s h => h)) N ((0 : Int32), g)

theorem c_X11_passDays {l : Launch} {D : ZD} {B0 : Nat} (N : Nat) (x0 : Nat) (x1 : Nat) (x2 : Int32) (g : ZS) : ∀ r, f_X11_passDays N x0 x1 x2 g = some r → zCt l D B0 yX11_passDays Y_X11_passDays [.ref x0, .ref x1, .int x2] g (some (.int r.1)) r.2 :=
  zCt_ofF (vo := fun r => some (.int r.1)) (so := fun r => r.2) (by decide +kernel) rfl (fun h => by cases h) rfl (Nat.le_of_ble_eq_true rfl) (fun X => j_X11_passDays N x0 x1 x2 g (fun _ _ h => h))

theorem j_X4_dropOldest_9 {X : ZX} (N : Nat) (x0 : Nat) (x1 : Nat) (x2 : Int32)   (g : ZS) {K : ((Int32 × ZS) ⊕ ZS) → Prop} (h0 : ∀ g, K (.inr g) → xK X none g) (hL9 : ∀ s, K (.inl s) → zG Y_X4_dropOldest X 0 0 9 [some (.ref x0), some (.ref x1), some (.int s.1)] [] s.2) : J Y_X4_dropOldest X 0 0 9 [some (.ref x0), some (.ref x1), some (.int x2)] [] g (f_X4_dropOldest_9 N x0 x1 x2 g) K := by
  unfold f_X4_dropOldest_9
  refine J_iload_n rfl rfl (show Dc Y_X4_dropOldest 9 (.iload_n 2) 1 10 from ⟨by decide +kernel, rfl⟩) ?_
  refine J_bipush (12 : Int32) rfl (show Dc Y_X4_dropOldest 10 (.bipush 12) 2 12 from ⟨by decide +kernel, rfl⟩) ?_
  refine J_icmp_ge (tg := 35) (show Dc Y_X4_dropOldest 12 (.if_icmp .ge 23) 3 15 from ⟨by decide +kernel, rfl⟩) (by decide) (fun h => ?_) (fun h => ?_)
  · refine J_map (f := Sum.inr) (fun _ h => h) ?_
    refine J_aload_n rfl rfl (show Dc Y_X4_dropOldest 35 (.aload_n 0) 1 36 from ⟨by decide +kernel, rfl⟩) ?_
    refine J_getR (show Dc Y_X4_dropOldest 36 (.getfield 11) 3 39 from ⟨by decide +kernel, rfl⟩) w_f_RX4_11 rfl (fun v1 => ?_)
    refine J_bipush (11 : Int32) rfl (show Dc Y_X4_dropOldest 39 (.bipush 11) 2 41 from ⟨by decide +kernel, rfl⟩) ?_
    refine J_aload_n rfl rfl (show Dc Y_X4_dropOldest 41 (.aload_n 1) 1 42 from ⟨by decide +kernel, rfl⟩) ?_
    refine J_aast (kd := 26) (by decide) (show Dc Y_X4_dropOldest 42 (.aastore) 1 43 from ⟨by decide +kernel, rfl⟩) (fun g2 => ?_)
    refine J_aload_n rfl rfl (show Dc Y_X4_dropOldest 43 (.aload_n 0) 1 44 from ⟨by decide +kernel, rfl⟩) ?_
    refine J_bipush (11 : Int32) rfl (show Dc Y_X4_dropOldest 44 (.bipush 11) 2 46 from ⟨by decide +kernel, rfl⟩) ?_
    refine J_putI (show Dc Y_X4_dropOldest 46 (.putfield 18) 3 49 from ⟨by decide +kernel, rfl⟩) w_f_RX4_18 rfl rfl (fun g3 => ?_) (fun h => by cases h)
    exact J_ret0 (show Dc Y_X4_dropOldest 49 (.return_) 1 50 from ⟨by decide +kernel, rfl⟩) rfl (h0 _) (by decide) (by decide)
  · refine J_aload_n rfl rfl (show Dc Y_X4_dropOldest 15 (.aload_n 0) 1 16 from ⟨by decide +kernel, rfl⟩) ?_
    refine J_getR (show Dc Y_X4_dropOldest 16 (.getfield 11) 3 19 from ⟨by decide +kernel, rfl⟩) w_f_RX4_11 rfl (fun v4 => ?_)
    refine J_iload_n rfl rfl (show Dc Y_X4_dropOldest 19 (.iload_n 2) 1 20 from ⟨by decide +kernel, rfl⟩) ?_
    refine J_iconst (1 : Int32) rfl (show Dc Y_X4_dropOldest 20 (.iconst 1) 1 21 from ⟨by decide +kernel, rfl⟩) ?_
    refine J_isub (show Dc Y_X4_dropOldest 21 (.isub) 1 22 from ⟨by decide +kernel, rfl⟩) ?_
    refine J_aload_n rfl rfl (show Dc Y_X4_dropOldest 22 (.aload_n 0) 1 23 from ⟨by decide +kernel, rfl⟩) ?_
    refine J_getR (show Dc Y_X4_dropOldest 23 (.getfield 11) 3 26 from ⟨by decide +kernel, rfl⟩) w_f_RX4_11 rfl (fun v5 => ?_)
    refine J_iload_n rfl rfl (show Dc Y_X4_dropOldest 26 (.iload_n 2) 1 27 from ⟨by decide +kernel, rfl⟩) ?_
    refine J_aald (kd := 26) (by decide) (by decide) (show Dc Y_X4_dropOldest 27 (.aaload) 1 28 from ⟨by decide +kernel, rfl⟩) (fun v6 => ?_)
    refine J_aast (kd := 26) (by decide) (show Dc Y_X4_dropOldest 28 (.aastore) 1 29 from ⟨by decide +kernel, rfl⟩) (fun g7 => ?_)
    refine J_iinc (1 : Int32) [some (.ref x0), some (.ref x1), some (.int (x2 + (1 : Int32)))] (show Dc Y_X4_dropOldest 29 (.iinc 2 1) 3 32 from ⟨by decide +kernel, rfl⟩) rfl rfl (by decide) rfl rfl ?_
    refine J_goto (tg := 9) (show Dc Y_X4_dropOldest 32 (.goto (-23)) 3 35 from ⟨by decide +kernel, rfl⟩) (by decide) ?_
    exact J_leaf (fun h => hL9 (x2 + (1 : Int32), g7) h)

theorem j_X4_dropOldest {X : ZX} (N : Nat) (x0 : Nat)   (g : ZS) {K : ZS → Prop} (h0 : ∀ g, K g → xK X none g) : J Y_X4_dropOldest X 0 0 0 [some (.ref x0), none, none] [] g (f_X4_dropOldest N x0 g) K := by
  unfold f_X4_dropOldest
  refine J_aload_n rfl rfl (show Dc Y_X4_dropOldest 0 (.aload_n 0) 1 1 from ⟨by decide +kernel, rfl⟩) ?_
  refine J_getR (show Dc Y_X4_dropOldest 1 (.getfield 11) 3 4 from ⟨by decide +kernel, rfl⟩) w_f_RX4_11 rfl (fun v1 => ?_)
  refine J_iconst (0 : Int32) rfl (show Dc Y_X4_dropOldest 4 (.iconst 0) 1 5 from ⟨by decide +kernel, rfl⟩) ?_
  refine J_aald (kd := 26) (by decide) (by decide) (show Dc Y_X4_dropOldest 5 (.aaload) 1 6 from ⟨by decide +kernel, rfl⟩) (fun v2 => ?_)
  refine J_astore_n [some (.ref x0), some (.ref v2), none] (show Dc Y_X4_dropOldest 6 (.astore_n 1) 1 7 from ⟨by decide +kernel, rfl⟩) rfl (by decide) rfl rfl ?_
  refine J_iconst (1 : Int32) rfl (show Dc Y_X4_dropOldest 7 (.iconst 1) 1 8 from ⟨by decide +kernel, rfl⟩) ?_
  refine J_istore_n [some (.ref x0), some (.ref v2), some (.int (1 : Int32))] (show Dc Y_X4_dropOldest 8 (.istore_n 2) 1 9 from ⟨by decide +kernel, rfl⟩) rfl (by decide) rfl rfl ?_
  exact J_loop (X := X) (K := K) (uc := fun _ => 0) (us := fun _ => 0) (lf := fun s => [some (.ref x0), some (.ref v2), some (.int s.1)]) (gf := fun s => s.2) (fun s => j_X4_dropOldest_9 (K := zKl Y_X4_dropOldest X 9 (fun _ => 0) (fun _ => 0) (fun s => [some (.ref x0), some (.ref v2), some (.int s.1)]) (fun s => s.2) K) N x0 v2 s.1 s.2 h0 (fun s h => h)) N ((1 : Int32), g)

theorem c_X4_dropOldest {l : Launch} {D : ZD} {B0 : Nat} (N : Nat) (x0 : Nat) (g : ZS) : ∀ r, f_X4_dropOldest N x0 g = some r → zCt l D B0 yX4_dropOldest Y_X4_dropOldest [.ref x0] g none r :=
  zCt_ofF (vo := fun _ => none) (so := fun r => r) (by decide +kernel) rfl (fun h => by cases h) rfl (Nat.le_of_ble_eq_true rfl) (fun X => j_X4_dropOldest N x0 g (fun _ h => h))

theorem j_X9_add_29 {X : ZX}    (g : ZS) {K : ZS → Prop} (h0 : ∀ g, K g → xK X none g) : J Y_X9_add X 0 0 29 [none, none, none] [] g (f_X9_add_29 g) K := by
  unfold f_X9_add_29
  exact J_ret0 (show Dc Y_X9_add 29 (.return_) 1 30 from ⟨by decide +kernel, rfl⟩) rfl (h0 _) (by decide) (by decide)

theorem j_X9_add {X : ZX} (x0 : Nat) (x1 : Int64)   (g : ZS) {K : ZS → Prop} (h0 : ∀ g, K g → xK X none g) : J Y_X9_add X 0 0 0 [some (.ref x0), some (.long x1), none] [] g (f_X9_add x0 x1 g) K := by
  unfold f_X9_add
  refine J_aload_n rfl rfl (show Dc Y_X9_add 0 (.aload_n 0) 1 1 from ⟨by decide +kernel, rfl⟩) ?_
  refine J_getI (show Dc Y_X9_add 1 (.getfield 15) 3 4 from ⟨by decide +kernel, rfl⟩) w_f_RX9_15 rfl (fun v1 => ?_)
  refine J_bipush (8 : Int32) rfl (show Dc Y_X9_add 4 (.bipush 8) 2 6 from ⟨by decide +kernel, rfl⟩) ?_
  refine J_icmp_ge (tg := 29) (show Dc Y_X9_add 6 (.if_icmp .ge 23) 3 9 from ⟨by decide +kernel, rfl⟩) (by decide) (fun h => ?_) (fun h => ?_)
  · refine J_mask [false, false, false] ?_
    exact j_X9_add_29 g h0
  · refine J_aload_n rfl rfl (show Dc Y_X9_add 9 (.aload_n 0) 1 10 from ⟨by decide +kernel, rfl⟩) ?_
    refine J_getR (show Dc Y_X9_add 10 (.getfield 9) 3 13 from ⟨by decide +kernel, rfl⟩) w_f_RX9_9 rfl (fun v2 => ?_)
    refine J_aload_n rfl rfl (show Dc Y_X9_add 13 (.aload_n 0) 1 14 from ⟨by decide +kernel, rfl⟩) ?_
    refine J_getI (show Dc Y_X9_add 14 (.getfield 15) 3 17 from ⟨by decide +kernel, rfl⟩) w_f_RX9_15 rfl (fun v3 => ?_)
    refine J_lload_n rfl rfl (show Dc Y_X9_add 17 (.lload_n 1) 1 18 from ⟨by decide +kernel, rfl⟩) ?_
    refine J_last (show Dc Y_X9_add 18 (.lastore) 1 19 from ⟨by decide +kernel, rfl⟩) (fun g4 => ?_)
    refine J_aload_n rfl rfl (show Dc Y_X9_add 19 (.aload_n 0) 1 20 from ⟨by decide +kernel, rfl⟩) ?_
    refine J_dup rfl (show Dc Y_X9_add 20 (.dup) 1 21 from ⟨by decide +kernel, rfl⟩) ?_
    refine J_getI (show Dc Y_X9_add 21 (.getfield 15) 3 24 from ⟨by decide +kernel, rfl⟩) w_f_RX9_15 rfl (fun v5 => ?_)
    refine J_iconst (1 : Int32) rfl (show Dc Y_X9_add 24 (.iconst 1) 1 25 from ⟨by decide +kernel, rfl⟩) ?_
    refine J_iadd (show Dc Y_X9_add 25 (.iadd) 1 26 from ⟨by decide +kernel, rfl⟩) ?_
    refine J_putI (show Dc Y_X9_add 26 (.putfield 15) 3 29 from ⟨by decide +kernel, rfl⟩) w_f_RX9_15 rfl rfl (fun g6 => ?_) (fun h => by cases h)
    refine J_mask [false, false, false] ?_
    exact j_X9_add_29 g6 h0

theorem c_X9_add {l : Launch} {D : ZD} {B0 : Nat} (x0 : Nat) (x1 : Int64) (g : ZS) : ∀ r, f_X9_add x0 x1 g = some r → zCt l D B0 yX9_add Y_X9_add [.ref x0, .long x1] g none r :=
  zCt_ofF (vo := fun _ => none) (so := fun r => r) (by decide +kernel) rfl (fun h => by cases h) rfl (Nat.le_of_ble_eq_true rfl) (fun X => j_X9_add x0 x1 g (fun _ h => h))

theorem j_X12_lay_2 {X : ZX} (N : Nat) (x0 : Nat) (x1 : Nat) (x2 : Int32) (x3 : Int32)   (g : ZS) {K : ((Int32 × ZS) ⊕ ZS) → Prop} (h0 : ∀ g, K (.inr g) → xK X none g) (hL2 : ∀ s, K (.inl s) → zG Y_X12_lay X 0 0 2 [some (.ref x0), some (.ref x1), some (.int x2), some (.int s.1)] [] s.2) : J Y_X12_lay X 0 0 2 [some (.ref x0), some (.ref x1), some (.int x2), some (.int x3)] [] g (f_X12_lay_2 N x0 x1 x2 x3 g) K := by
  unfold f_X12_lay_2
  refine J_iload_n rfl rfl (show Dc Y_X12_lay 2 (.iload_n 3) 1 3 from ⟨by decide +kernel, rfl⟩) ?_
  refine J_sipush (217 : Int32) rfl (show Dc Y_X12_lay 3 (.sipush 217) 3 6 from ⟨by decide +kernel, rfl⟩) ?_
  refine J_icmp_ge (tg := 23) (show Dc Y_X12_lay 6 (.if_icmp .ge 17) 3 9 from ⟨by decide +kernel, rfl⟩) (by decide) (fun h => ?_) (fun h => ?_)
  · refine J_map (f := Sum.inr) (fun _ h => h) ?_
    exact J_ret0 (show Dc Y_X12_lay 23 (.return_) 1 24 from ⟨by decide +kernel, rfl⟩) rfl (h0 _) (by decide) (by decide)
  · refine J_aload_n rfl rfl (show Dc Y_X12_lay 9 (.aload_n 1) 1 10 from ⟨by decide +kernel, rfl⟩) ?_
    refine J_iload_n rfl rfl (show Dc Y_X12_lay 10 (.iload_n 2) 1 11 from ⟨by decide +kernel, rfl⟩) ?_
    refine J_iload_n rfl rfl (show Dc Y_X12_lay 11 (.iload_n 3) 1 12 from ⟨by decide +kernel, rfl⟩) ?_
    refine J_iadd (show Dc Y_X12_lay 12 (.iadd) 1 13 from ⟨by decide +kernel, rfl⟩) ?_
    refine J_aload_n rfl rfl (show Dc Y_X12_lay 13 (.aload_n 0) 1 14 from ⟨by decide +kernel, rfl⟩) ?_
    refine J_iload_n rfl rfl (show Dc Y_X12_lay 14 (.iload_n 3) 1 15 from ⟨by decide +kernel, rfl⟩) ?_
    refine J_iald (show Dc Y_X12_lay 15 (.iaload) 1 16 from ⟨by decide +kernel, rfl⟩) (fun v1 => ?_)
    refine J_iast (show Dc Y_X12_lay 16 (.iastore) 1 17 from ⟨by decide +kernel, rfl⟩) (fun g2 => ?_)
    refine J_iinc (1 : Int32) [some (.ref x0), some (.ref x1), some (.int x2), some (.int (x3 + (1 : Int32)))] (show Dc Y_X12_lay 17 (.iinc 3 1) 3 20 from ⟨by decide +kernel, rfl⟩) rfl rfl (by decide) rfl rfl ?_
    refine J_goto (tg := 2) (show Dc Y_X12_lay 20 (.goto (-18)) 3 23 from ⟨by decide +kernel, rfl⟩) (by decide) ?_
    exact J_leaf (fun h => hL2 (x3 + (1 : Int32), g2) h)

theorem j_X12_lay {X : ZX} (N : Nat) (x0 : Nat) (x1 : Nat) (x2 : Int32)   (g : ZS) {K : ZS → Prop} (h0 : ∀ g, K g → xK X none g) : J Y_X12_lay X 0 0 0 [some (.ref x0), some (.ref x1), some (.int x2), none] [] g (f_X12_lay N x0 x1 x2 g) K := by
  unfold f_X12_lay
  refine J_iconst (0 : Int32) rfl (show Dc Y_X12_lay 0 (.iconst 0) 1 1 from ⟨by decide +kernel, rfl⟩) ?_
  refine J_istore_n [some (.ref x0), some (.ref x1), some (.int x2), some (.int (0 : Int32))] (show Dc Y_X12_lay 1 (.istore_n 3) 1 2 from ⟨by decide +kernel, rfl⟩) rfl (by decide) rfl rfl ?_
  exact J_loop (X := X) (K := K) (uc := fun _ => 0) (us := fun _ => 0) (lf := fun s => [some (.ref x0), some (.ref x1), some (.int x2), some (.int s.1)]) (gf := fun s => s.2) (fun s => j_X12_lay_2 (K := zKl Y_X12_lay X 2 (fun _ => 0) (fun _ => 0) (fun s => [some (.ref x0), some (.ref x1), some (.int x2), some (.int s.1)]) (fun s => s.2) K) N x0 x1 x2 s.1 s.2 h0 (fun s h => h)) N ((0 : Int32), g)

theorem c_X12_lay {l : Launch} {D : ZD} {B0 : Nat} (N : Nat) (x0 : Nat) (x1 : Nat) (x2 : Int32) (g : ZS) : ∀ r, f_X12_lay N x0 x1 x2 g = some r → zCt l D B0 yX12_lay Y_X12_lay [.ref x0, .ref x1, .int x2] g none r :=
  zCt_ofF (vo := fun _ => none) (so := fun r => r) (by decide +kernel) rfl (fun h => by cases h) rfl (Nat.le_of_ble_eq_true rfl) (fun X => j_X12_lay N x0 x1 x2 g (fun _ h => h))

theorem j_X12_remember_50 {X : ZX} (N : Nat) (x0 : Nat) (x1 : Nat)   (g : ZS) {K : ZS → Prop} (h0 : ∀ g, K g → xK X none g) : J Y_X12_remember X 0 0 50 [some (.ref x0), some (.ref x1), none] [] g (f_X12_remember_50 N x0 x1 g) K := by
  unfold f_X12_remember_50
  refine J_aload_n rfl rfl (show Dc Y_X12_remember 50 (.aload_n 1) 1 51 from ⟨by decide +kernel, rfl⟩) ?_
  refine J_aload_n rfl rfl (show Dc Y_X12_remember 51 (.aload_n 0) 1 52 from ⟨by decide +kernel, rfl⟩) ?_
  refine J_getR (show Dc Y_X12_remember 52 (.getfield 54) 3 55 from ⟨by decide +kernel, rfl⟩) w_f_RX12_54 rfl (fun v1 => ?_)
  refine J_sipush (217 : Int32) rfl (show Dc Y_X12_remember 55 (.sipush 217) 3 58 from ⟨by decide +kernel, rfl⟩) ?_
  refine J_aload_n rfl rfl (show Dc Y_X12_remember 58 (.aload_n 0) 1 59 from ⟨by decide +kernel, rfl⟩) ?_
  refine J_getI (show Dc Y_X12_remember 59 (.getfield 183) 3 62 from ⟨by decide +kernel, rfl⟩) w_f_RX12_183 rfl (fun v2 => ?_)
  refine J_imul (show Dc Y_X12_remember 62 (.imul) 1 63 from ⟨by decide +kernel, rfl⟩) ?_
  refine J_callSv (fun r => r) (show Dc Y_X12_remember 63 (.invokestatic 253) 3 66 from ⟨by decide +kernel, rfl⟩) w_m_RX12_253 w_st_X12_lay w_cw_X12_lay (c_X12_lay N x1 v1 ((217 : Int32) * v2) g) rfl rfl (by decide) (Nat.le_of_ble_eq_true rfl) (by decide) (by decide) (fun g3 => ?_)
  refine J_aload_n rfl rfl (show Dc Y_X12_remember 66 (.aload_n 0) 1 67 from ⟨by decide +kernel, rfl⟩) ?_
  refine J_dup rfl (show Dc Y_X12_remember 67 (.dup) 1 68 from ⟨by decide +kernel, rfl⟩) ?_
  refine J_getI (show Dc Y_X12_remember 68 (.getfield 183) 3 71 from ⟨by decide +kernel, rfl⟩) w_f_RX12_183 rfl (fun v4 => ?_)
  refine J_iconst (1 : Int32) rfl (show Dc Y_X12_remember 71 (.iconst 1) 1 72 from ⟨by decide +kernel, rfl⟩) ?_
  refine J_iadd (show Dc Y_X12_remember 72 (.iadd) 1 73 from ⟨by decide +kernel, rfl⟩) ?_
  refine J_putI (show Dc Y_X12_remember 73 (.putfield 183) 3 76 from ⟨by decide +kernel, rfl⟩) w_f_RX12_183 rfl rfl (fun g5 => ?_) (fun h => by cases h)
  exact J_ret0 (show Dc Y_X12_remember 76 (.return_) 1 77 from ⟨by decide +kernel, rfl⟩) rfl (h0 _) (by decide) (by decide)

theorem j_X12_remember_11 {X : ZX} (N : Nat) (x0 : Nat) (x1 : Nat) (x2 : Int32)   (g : ZS) {K : ((Int32 × ZS) ⊕ ZS) → Prop} (h0 : ∀ g, K (.inr g) → xK X none g) (hL11 : ∀ s, K (.inl s) → zG Y_X12_remember X 0 0 11 [some (.ref x0), some (.ref x1), some (.int s.1)] [] s.2) : J Y_X12_remember X 0 0 11 [some (.ref x0), some (.ref x1), some (.int x2)] [] g (f_X12_remember_11 N x0 x1 x2 g) K := by
  unfold f_X12_remember_11
  refine J_iload_n rfl rfl (show Dc Y_X12_remember 11 (.iload_n 2) 1 12 from ⟨by decide +kernel, rfl⟩) ?_
  refine J_sipush (2387 : Int32) rfl (show Dc Y_X12_remember 12 (.sipush 2387) 3 15 from ⟨by decide +kernel, rfl⟩) ?_
  refine J_icmp_ge (tg := 40) (show Dc Y_X12_remember 15 (.if_icmp .ge 25) 3 18 from ⟨by decide +kernel, rfl⟩) (by decide) (fun h => ?_) (fun h => ?_)
  · refine J_map (f := Sum.inr) (fun _ h => h) ?_
    refine J_aload_n rfl rfl (show Dc Y_X12_remember 40 (.aload_n 0) 1 41 from ⟨by decide +kernel, rfl⟩) ?_
    refine J_dup rfl (show Dc Y_X12_remember 41 (.dup) 1 42 from ⟨by decide +kernel, rfl⟩) ?_
    refine J_getI (show Dc Y_X12_remember 42 (.getfield 183) 3 45 from ⟨by decide +kernel, rfl⟩) w_f_RX12_183 rfl (fun v1 => ?_)
    refine J_iconst (1 : Int32) rfl (show Dc Y_X12_remember 45 (.iconst 1) 1 46 from ⟨by decide +kernel, rfl⟩) ?_
    refine J_isub (show Dc Y_X12_remember 46 (.isub) 1 47 from ⟨by decide +kernel, rfl⟩) ?_
    refine J_putI (show Dc Y_X12_remember 47 (.putfield 183) 3 50 from ⟨by decide +kernel, rfl⟩) w_f_RX12_183 rfl rfl (fun g2 => ?_) (fun h => by cases h)
    refine J_mask [true, true, false] ?_
    exact j_X12_remember_50 (K := fun o => K (.inr o)) N x0 x1 g2 h0
  · refine J_aload_n rfl rfl (show Dc Y_X12_remember 18 (.aload_n 0) 1 19 from ⟨by decide +kernel, rfl⟩) ?_
    refine J_getR (show Dc Y_X12_remember 19 (.getfield 54) 3 22 from ⟨by decide +kernel, rfl⟩) w_f_RX12_54 rfl (fun v3 => ?_)
    refine J_iload_n rfl rfl (show Dc Y_X12_remember 22 (.iload_n 2) 1 23 from ⟨by decide +kernel, rfl⟩) ?_
    refine J_aload_n rfl rfl (show Dc Y_X12_remember 23 (.aload_n 0) 1 24 from ⟨by decide +kernel, rfl⟩) ?_
    refine J_getR (show Dc Y_X12_remember 24 (.getfield 54) 3 27 from ⟨by decide +kernel, rfl⟩) w_f_RX12_54 rfl (fun v4 => ?_)
    refine J_iload_n rfl rfl (show Dc Y_X12_remember 27 (.iload_n 2) 1 28 from ⟨by decide +kernel, rfl⟩) ?_
    refine J_sipush (217 : Int32) rfl (show Dc Y_X12_remember 28 (.sipush 217) 3 31 from ⟨by decide +kernel, rfl⟩) ?_
    refine J_iadd (show Dc Y_X12_remember 31 (.iadd) 1 32 from ⟨by decide +kernel, rfl⟩) ?_
    refine J_iald (show Dc Y_X12_remember 32 (.iaload) 1 33 from ⟨by decide +kernel, rfl⟩) (fun v5 => ?_)
    refine J_iast (show Dc Y_X12_remember 33 (.iastore) 1 34 from ⟨by decide +kernel, rfl⟩) (fun g6 => ?_)
    refine J_iinc (1 : Int32) [some (.ref x0), some (.ref x1), some (.int (x2 + (1 : Int32)))] (show Dc Y_X12_remember 34 (.iinc 2 1) 3 37 from ⟨by decide +kernel, rfl⟩) rfl rfl (by decide) rfl rfl ?_
    refine J_goto (tg := 11) (show Dc Y_X12_remember 37 (.goto (-26)) 3 40 from ⟨by decide +kernel, rfl⟩) (by decide) ?_
    exact J_leaf (fun h => hL11 (x2 + (1 : Int32), g6) h)

theorem j_X12_remember {X : ZX} (N : Nat) (x0 : Nat) (x1 : Nat)   (g : ZS) {K : ZS → Prop} (h0 : ∀ g, K g → xK X none g) : J Y_X12_remember X 0 0 0 [some (.ref x0), some (.ref x1), none] [] g (f_X12_remember N x0 x1 g) K := by
  unfold f_X12_remember
  refine J_aload_n rfl rfl (show Dc Y_X12_remember 0 (.aload_n 0) 1 1 from ⟨by decide +kernel, rfl⟩) ?_
  refine J_getI (show Dc Y_X12_remember 1 (.getfield 183) 3 4 from ⟨by decide +kernel, rfl⟩) w_f_RX12_183 rfl (fun v1 => ?_)
  refine J_bipush (12 : Int32) rfl (show Dc Y_X12_remember 4 (.bipush 12) 2 6 from ⟨by decide +kernel, rfl⟩) ?_
  refine J_icmp_ne (tg := 50) (show Dc Y_X12_remember 6 (.if_icmp .ne 44) 3 9 from ⟨by decide +kernel, rfl⟩) (by decide) (fun h => ?_) (fun h => ?_)
  · exact j_X12_remember_50 N x0 x1 g h0
  · refine J_iconst (0 : Int32) rfl (show Dc Y_X12_remember 9 (.iconst 0) 1 10 from ⟨by decide +kernel, rfl⟩) ?_
    refine J_istore_n [some (.ref x0), some (.ref x1), some (.int (0 : Int32))] (show Dc Y_X12_remember 10 (.istore_n 2) 1 11 from ⟨by decide +kernel, rfl⟩) rfl (by decide) rfl rfl ?_
    exact J_loop (X := X) (K := K) (uc := fun _ => 0) (us := fun _ => 0) (lf := fun s => [some (.ref x0), some (.ref x1), some (.int s.1)]) (gf := fun s => s.2) (fun s => j_X12_remember_11 (K := zKl Y_X12_remember X 11 (fun _ => 0) (fun _ => 0) (fun s => [some (.ref x0), some (.ref x1), some (.int s.1)]) (fun s => s.2) K) N x0 x1 s.1 s.2 h0 (fun s h => h)) N ((0 : Int32), g)

theorem c_X12_remember {l : Launch} {D : ZD} {B0 : Nat} (N : Nat) (x0 : Nat) (x1 : Nat) (g : ZS) : ∀ r, f_X12_remember N x0 x1 g = some r → zCt l D B0 yX12_remember Y_X12_remember [.ref x0, .ref x1] g none r :=
  zCt_ofF (vo := fun _ => none) (so := fun r => r) (by decide +kernel) rfl (fun h => by cases h) rfl (Nat.le_of_ble_eq_true rfl) (fun X => j_X12_remember N x0 x1 g (fun _ h => h))

theorem j_X12_hears_36 {X : ZX} (x0 : Nat) (x1 : Int32) (x2 : Int32) (x3 : Int32)   (g : ZS) {K : ZS → Prop} (h0 : ∀ g, K g → xK X none g) : J Y_X12_hears X 0 0 36 [some (.ref x0), some (.int x1), some (.int x2), some (.int x3)] [] g (f_X12_hears_36 x0 x1 x2 x3 g) K := by
  unfold f_X12_hears_36
  refine J_aload_n rfl rfl (show Dc Y_X12_hears 36 (.aload_n 0) 1 37 from ⟨by decide +kernel, rfl⟩) ?_
  refine J_iload_n rfl rfl (show Dc Y_X12_hears 37 (.iload_n 1) 1 38 from ⟨by decide +kernel, rfl⟩) ?_
  refine J_bipush (20 : Int32) rfl (show Dc Y_X12_hears 38 (.bipush 20) 2 40 from ⟨by decide +kernel, rfl⟩) ?_
  refine J_iload_n rfl rfl (show Dc Y_X12_hears 40 (.iload_n 2) 1 41 from ⟨by decide +kernel, rfl⟩) ?_
  refine J_iadd (show Dc Y_X12_hears 41 (.iadd) 1 42 from ⟨by decide +kernel, rfl⟩) ?_
  refine J_callSi (fun r => r) (fun _ => g) (show Dc Y_X12_hears 42 (.invokestatic 179) 3 45 from ⟨by decide +kernel, rfl⟩) w_m_RX12_179 w_st_X12_of w_cw_X12_of (c_X12_of x1 ((20 : Int32) + x2) g) rfl rfl (by decide) (Nat.le_of_ble_eq_true rfl) (by decide) (by decide) (fun v1 => ?_)
  refine J_iload_n rfl rfl (show Dc Y_X12_hears 45 (.iload_n 3) 1 46 from ⟨by decide +kernel, rfl⟩) ?_
  refine J_iast (show Dc Y_X12_hears 46 (.iastore) 1 47 from ⟨by decide +kernel, rfl⟩) (fun g2 => ?_)
  refine J_aload_n rfl rfl (show Dc Y_X12_hears 47 (.aload_n 0) 1 48 from ⟨by decide +kernel, rfl⟩) ?_
  refine J_iload_n rfl rfl (show Dc Y_X12_hears 48 (.iload_n 1) 1 49 from ⟨by decide +kernel, rfl⟩) ?_
  refine J_iconst (4 : Int32) rfl (show Dc Y_X12_hears 49 (.iconst 4) 1 50 from ⟨by decide +kernel, rfl⟩) ?_
  refine J_iload_n rfl rfl (show Dc Y_X12_hears 50 (.iload_n 2) 1 51 from ⟨by decide +kernel, rfl⟩) ?_
  refine J_iadd (show Dc Y_X12_hears 51 (.iadd) 1 52 from ⟨by decide +kernel, rfl⟩) ?_
  refine J_callSi (fun r => r) (fun _ => g2) (show Dc Y_X12_hears 52 (.invokestatic 179) 3 55 from ⟨by decide +kernel, rfl⟩) w_m_RX12_179 w_st_X12_of w_cw_X12_of (c_X12_of x1 ((4 : Int32) + x2) g2) rfl rfl (by decide) (Nat.le_of_ble_eq_true rfl) (by decide) (by decide) (fun v3 => ?_)
  refine J_dup2 rfl rfl (show Dc Y_X12_hears 55 (.dup2) 1 56 from ⟨by decide +kernel, rfl⟩) ?_
  refine J_iald (show Dc Y_X12_hears 56 (.iaload) 1 57 from ⟨by decide +kernel, rfl⟩) (fun v4 => ?_)
  refine J_iconst (1 : Int32) rfl (show Dc Y_X12_hears 57 (.iconst 1) 1 58 from ⟨by decide +kernel, rfl⟩) ?_
  refine J_iadd (show Dc Y_X12_hears 58 (.iadd) 1 59 from ⟨by decide +kernel, rfl⟩) ?_
  refine J_iast (show Dc Y_X12_hears 59 (.iastore) 1 60 from ⟨by decide +kernel, rfl⟩) (fun g5 => ?_)
  refine J_aload_n rfl rfl (show Dc Y_X12_hears 60 (.aload_n 0) 1 61 from ⟨by decide +kernel, rfl⟩) ?_
  refine J_iload_n rfl rfl (show Dc Y_X12_hears 61 (.iload_n 1) 1 62 from ⟨by decide +kernel, rfl⟩) ?_
  refine J_iconst (2 : Int32) rfl (show Dc Y_X12_hears 62 (.iconst 2) 1 63 from ⟨by decide +kernel, rfl⟩) ?_
  refine J_callSi (fun r => r) (fun _ => g5) (show Dc Y_X12_hears 63 (.invokestatic 179) 3 66 from ⟨by decide +kernel, rfl⟩) w_m_RX12_179 w_st_X12_of w_cw_X12_of (c_X12_of x1 (2 : Int32) g5) rfl rfl (by decide) (Nat.le_of_ble_eq_true rfl) (by decide) (by decide) (fun v6 => ?_)
  refine J_dup2 rfl rfl (show Dc Y_X12_hears 66 (.dup2) 1 67 from ⟨by decide +kernel, rfl⟩) ?_
  refine J_iald (show Dc Y_X12_hears 67 (.iaload) 1 68 from ⟨by decide +kernel, rfl⟩) (fun v7 => ?_)
  refine J_iconst (1 : Int32) rfl (show Dc Y_X12_hears 68 (.iconst 1) 1 69 from ⟨by decide +kernel, rfl⟩) ?_
  refine J_iadd (show Dc Y_X12_hears 69 (.iadd) 1 70 from ⟨by decide +kernel, rfl⟩) ?_
  refine J_iast (show Dc Y_X12_hears 70 (.iastore) 1 71 from ⟨by decide +kernel, rfl⟩) (fun g8 => ?_)
  exact J_ret0 (show Dc Y_X12_hears 71 (.return_) 1 72 from ⟨by decide +kernel, rfl⟩) rfl (h0 _) (by decide) (by decide)

theorem j_X12_hears {X : ZX} (x0 : Nat) (x1 : Int32) (x2 : Int32)   (g : ZS) {K : ZS → Prop} (h0 : ∀ g, K g → xK X none g) : J Y_X12_hears X 0 0 0 [some (.ref x0), some (.int x1), some (.int x2), none] [] g (f_X12_hears x0 x1 x2 g) K := by
  unfold f_X12_hears
  refine J_aload_n rfl rfl (show Dc Y_X12_hears 0 (.aload_n 0) 1 1 from ⟨by decide +kernel, rfl⟩) ?_
  refine J_iload_n rfl rfl (show Dc Y_X12_hears 1 (.iload_n 1) 1 2 from ⟨by decide +kernel, rfl⟩) ?_
  refine J_iconst (2 : Int32) rfl (show Dc Y_X12_hears 2 (.iconst 2) 1 3 from ⟨by decide +kernel, rfl⟩) ?_
  refine J_callSi (fun r => r) (fun _ => g) (show Dc Y_X12_hears 3 (.invokestatic 179) 3 6 from ⟨by decide +kernel, rfl⟩) w_m_RX12_179 w_st_X12_of w_cw_X12_of (c_X12_of x1 (2 : Int32) g) rfl rfl (by decide) (Nat.le_of_ble_eq_true rfl) (by decide) (by decide) (fun v1 => ?_)
  refine J_iald (show Dc Y_X12_hears 6 (.iaload) 1 7 from ⟨by decide +kernel, rfl⟩) (fun v2 => ?_)
  refine J_istore_n [some (.ref x0), some (.int x1), some (.int x2), some (.int v2)] (show Dc Y_X12_hears 7 (.istore_n 3) 1 8 from ⟨by decide +kernel, rfl⟩) rfl (by decide) rfl rfl ?_
  refine J_iload_n rfl rfl (show Dc Y_X12_hears 8 (.iload_n 3) 1 9 from ⟨by decide +kernel, rfl⟩) ?_
  refine J_sipush (9999 : Int32) rfl (show Dc Y_X12_hears 9 (.sipush 9999) 3 12 from ⟨by decide +kernel, rfl⟩) ?_
  refine J_icmp_ne (tg := 16) (show Dc Y_X12_hears 12 (.if_icmp .ne 4) 3 15 from ⟨by decide +kernel, rfl⟩) (by decide) (fun h => ?_) (fun h => ?_)
  · refine J_aload_n rfl rfl (show Dc Y_X12_hears 16 (.aload_n 0) 1 17 from ⟨by decide +kernel, rfl⟩) ?_
    refine J_iload_n rfl rfl (show Dc Y_X12_hears 17 (.iload_n 1) 1 18 from ⟨by decide +kernel, rfl⟩) ?_
    refine J_iload_n rfl rfl (show Dc Y_X12_hears 18 (.iload_n 2) 1 19 from ⟨by decide +kernel, rfl⟩) ?_
    refine J_callSi (fun r => r) (fun _ => g) (show Dc Y_X12_hears 19 (.invokestatic 221) 3 22 from ⟨by decide +kernel, rfl⟩) w_m_RX12_221 w_st_X12_hasHeard w_cw_X12_hasHeard (c_X12_hasHeard x0 x1 x2 g) rfl rfl (by decide) (Nat.le_of_ble_eq_true rfl) (by decide) (by decide) (fun v3 => ?_)
    refine J_if_ne (tg := 36) (show Dc Y_X12_hears 22 (.ifCond .ne 14) 3 25 from ⟨by decide +kernel, rfl⟩) (by decide) (fun h => ?_) (fun h => ?_)
    · exact j_X12_hears_36 x0 x1 x2 v2 g h0
    · refine J_aload_n rfl rfl (show Dc Y_X12_hears 25 (.aload_n 0) 1 26 from ⟨by decide +kernel, rfl⟩) ?_
      refine J_iload_n rfl rfl (show Dc Y_X12_hears 26 (.iload_n 1) 1 27 from ⟨by decide +kernel, rfl⟩) ?_
      refine J_bipush (12 : Int32) rfl (show Dc Y_X12_hears 27 (.bipush 12) 2 29 from ⟨by decide +kernel, rfl⟩) ?_
      refine J_iload_n rfl rfl (show Dc Y_X12_hears 29 (.iload_n 2) 1 30 from ⟨by decide +kernel, rfl⟩) ?_
      refine J_iadd (show Dc Y_X12_hears 30 (.iadd) 1 31 from ⟨by decide +kernel, rfl⟩) ?_
      refine J_callSi (fun r => r) (fun _ => g) (show Dc Y_X12_hears 31 (.invokestatic 179) 3 34 from ⟨by decide +kernel, rfl⟩) w_m_RX12_179 w_st_X12_of w_cw_X12_of (c_X12_of x1 ((12 : Int32) + x2) g) rfl rfl (by decide) (Nat.le_of_ble_eq_true rfl) (by decide) (by decide) (fun v4 => ?_)
      refine J_iload_n rfl rfl (show Dc Y_X12_hears 34 (.iload_n 3) 1 35 from ⟨by decide +kernel, rfl⟩) ?_
      refine J_iast (show Dc Y_X12_hears 35 (.iastore) 1 36 from ⟨by decide +kernel, rfl⟩) (fun g5 => ?_)
      exact j_X12_hears_36 x0 x1 x2 v2 g5 h0
  · exact J_ret0 (show Dc Y_X12_hears 15 (.return_) 1 16 from ⟨by decide +kernel, rfl⟩) rfl (h0 _) (by decide) (by decide)

theorem c_X12_hears {l : Launch} {D : ZD} {B0 : Nat} (x0 : Nat) (x1 : Int32) (x2 : Int32) (g : ZS) : ∀ r, f_X12_hears x0 x1 x2 g = some r → zCt l D B0 yX12_hears Y_X12_hears [.ref x0, .int x1, .int x2] g none r :=
  zCt_ofF (vo := fun _ => none) (so := fun r => r) (by decide +kernel) rfl (fun h => by cases h) rfl (Nat.le_of_ble_eq_true rfl) (fun X => j_X12_hears x0 x1 x2 g (fun _ h => h))

theorem j_X12_goDays_53 {X : ZX} (N : Nat) (x0 : Nat) (x1 : Nat) (x2 : Int32) (x3 : Int32) (x4 : Int32)   (g : ZS) {K : ((Int32 × ZS) ⊕ ((Int32 × ZS) ⊕ ZS)) → Prop} (h0 : ∀ g, K (.inr (.inr g)) → xK X none g) (hL2 : ∀ s, K (.inr (.inl s)) → zG Y_X12_goDays X 0 0 2 [some (.ref x0), some (.ref x1), some (.int x2), some (.int s.1), none] [] s.2) (hL10 : ∀ s, K (.inl s) → zG Y_X12_goDays X 0 0 10 [some (.ref x0), some (.ref x1), some (.int x2), some (.int x3), some (.int s.1)] [] s.2) : J Y_X12_goDays X 0 0 53 [some (.ref x0), some (.ref x1), some (.int x2), some (.int x3), some (.int x4)] [] g (f_X12_goDays_53 N x0 x1 x2 x3 x4 g) K := by
  unfold f_X12_goDays_53
  refine J_iinc (1 : Int32) [some (.ref x0), some (.ref x1), some (.int x2), some (.int x3), some (.int (x4 + (1 : Int32)))] (show Dc Y_X12_goDays 53 (.iinc 4 1) 3 56 from ⟨by decide +kernel, rfl⟩) rfl rfl (by decide) rfl rfl ?_
  refine J_goto (tg := 10) (show Dc Y_X12_goDays 56 (.goto (-46)) 3 59 from ⟨by decide +kernel, rfl⟩) (by decide) ?_
  exact J_leaf (fun h => hL10 (x4 + (1 : Int32), g) h)

theorem j_X12_goDays_10 {X : ZX} (N : Nat) (x0 : Nat) (x1 : Nat) (x2 : Int32) (x3 : Int32) (x4 : Int32)   (g : ZS) {K : ((Int32 × ZS) ⊕ ((Int32 × ZS) ⊕ ZS)) → Prop} (h0 : ∀ g, K (.inr (.inr g)) → xK X none g) (hL2 : ∀ s, K (.inr (.inl s)) → zG Y_X12_goDays X 0 0 2 [some (.ref x0), some (.ref x1), some (.int x2), some (.int s.1), none] [] s.2) (hL10 : ∀ s, K (.inl s) → zG Y_X12_goDays X 0 0 10 [some (.ref x0), some (.ref x1), some (.int x2), some (.int x3), some (.int s.1)] [] s.2) : J Y_X12_goDays X 0 0 10 [some (.ref x0), some (.ref x1), some (.int x2), some (.int x3), some (.int x4)] [] g (f_X12_goDays_10 N x0 x1 x2 x3 x4 g) K := by
  unfold f_X12_goDays_10
  refine J_iload rfl (show Dc Y_X12_goDays 10 (.iload 4) 2 12 from ⟨by decide +kernel, rfl⟩) ?_
  refine J_aload_n rfl rfl (show Dc Y_X12_goDays 12 (.aload_n 0) 1 13 from ⟨by decide +kernel, rfl⟩) ?_
  refine J_getI (show Dc Y_X12_goDays 13 (.getfield 116) 3 16 from ⟨by decide +kernel, rfl⟩) w_f_RX12_116 rfl (fun v1 => ?_)
  refine J_icmp_ge (tg := 59) (show Dc Y_X12_goDays 16 (.if_icmp .ge 43) 3 19 from ⟨by decide +kernel, rfl⟩) (by decide) (fun h => ?_) (fun h => ?_)
  · refine J_map (f := Sum.inr) (fun _ h => h) ?_
    refine J_aload_n rfl rfl (show Dc Y_X12_goDays 59 (.aload_n 1) 1 60 from ⟨by decide +kernel, rfl⟩) ?_
    refine J_sipush (216 : Int32) rfl (show Dc Y_X12_goDays 60 (.sipush 216) 3 63 from ⟨by decide +kernel, rfl⟩) ?_
    refine J_dup2 rfl rfl (show Dc Y_X12_goDays 63 (.dup2) 1 64 from ⟨by decide +kernel, rfl⟩) ?_
    refine J_iald (show Dc Y_X12_goDays 64 (.iaload) 1 65 from ⟨by decide +kernel, rfl⟩) (fun v2 => ?_)
    refine J_iconst (1 : Int32) rfl (show Dc Y_X12_goDays 65 (.iconst 1) 1 66 from ⟨by decide +kernel, rfl⟩) ?_
    refine J_iadd (show Dc Y_X12_goDays 66 (.iadd) 1 67 from ⟨by decide +kernel, rfl⟩) ?_
    refine J_iast (show Dc Y_X12_goDays 67 (.iastore) 1 68 from ⟨by decide +kernel, rfl⟩) (fun g3 => ?_)
    refine J_iinc (1 : Int32) [some (.ref x0), some (.ref x1), some (.int x2), some (.int (x3 + (1 : Int32))), some (.int x4)] (show Dc Y_X12_goDays 68 (.iinc 3 1) 3 71 from ⟨by decide +kernel, rfl⟩) rfl rfl (by decide) rfl rfl ?_
    refine J_goto (tg := 2) (show Dc Y_X12_goDays 71 (.goto (-69)) 3 74 from ⟨by decide +kernel, rfl⟩) (by decide) ?_
    refine J_mask [true, true, true, true, false] ?_
    exact J_leaf (fun h => hL2 (x3 + (1 : Int32), g3) h)
  · refine J_aload_n rfl rfl (show Dc Y_X12_goDays 19 (.aload_n 1) 1 20 from ⟨by decide +kernel, rfl⟩) ?_
    refine J_iload rfl (show Dc Y_X12_goDays 20 (.iload 4) 2 22 from ⟨by decide +kernel, rfl⟩) ?_
    refine J_iconst (1 : Int32) rfl (show Dc Y_X12_goDays 22 (.iconst 1) 1 23 from ⟨by decide +kernel, rfl⟩) ?_
    refine J_callSi (fun r => r) (fun _ => g) (show Dc Y_X12_goDays 23 (.invokestatic 179) 3 26 from ⟨by decide +kernel, rfl⟩) w_m_RX12_179 w_st_X12_of w_cw_X12_of (c_X12_of x4 (1 : Int32) g) rfl rfl (by decide) (Nat.le_of_ble_eq_true rfl) (by decide) (by decide) (fun v4 => ?_)
    refine J_iald (show Dc Y_X12_goDays 26 (.iaload) 1 27 from ⟨by decide +kernel, rfl⟩) (fun v5 => ?_)
    refine J_if_ne (tg := 53) (show Dc Y_X12_goDays 27 (.ifCond .ne 26) 3 30 from ⟨by decide +kernel, rfl⟩) (by decide) (fun h => ?_) (fun h => ?_)
    · exact j_X12_goDays_53 N x0 x1 x2 x3 x4 g h0 hL2 hL10
    · refine J_aload_n rfl rfl (show Dc Y_X12_goDays 30 (.aload_n 1) 1 31 from ⟨by decide +kernel, rfl⟩) ?_
      refine J_iload rfl (show Dc Y_X12_goDays 31 (.iload 4) 2 33 from ⟨by decide +kernel, rfl⟩) ?_
      refine J_aload_n rfl rfl (show Dc Y_X12_goDays 33 (.aload_n 0) 1 34 from ⟨by decide +kernel, rfl⟩) ?_
      refine J_aload_n rfl rfl (show Dc Y_X12_goDays 34 (.aload_n 1) 1 35 from ⟨by decide +kernel, rfl⟩) ?_
      refine J_iload rfl (show Dc Y_X12_goDays 35 (.iload 4) 2 37 from ⟨by decide +kernel, rfl⟩) ?_
      refine J_iconst (0 : Int32) rfl (show Dc Y_X12_goDays 37 (.iconst 0) 1 38 from ⟨by decide +kernel, rfl⟩) ?_
      refine J_callSi (fun r => r) (fun _ => g) (show Dc Y_X12_goDays 38 (.invokestatic 179) 3 41 from ⟨by decide +kernel, rfl⟩) w_m_RX12_179 w_st_X12_of w_cw_X12_of (c_X12_of x4 (0 : Int32) g) rfl rfl (by decide) (Nat.le_of_ble_eq_true rfl) (by decide) (by decide) (fun v6 => ?_)
      refine J_iald (show Dc Y_X12_goDays 41 (.iaload) 1 42 from ⟨by decide +kernel, rfl⟩) (fun v7 => ?_)
      refine J_aload_n rfl rfl (show Dc Y_X12_goDays 42 (.aload_n 1) 1 43 from ⟨by decide +kernel, rfl⟩) ?_
      refine J_sipush (216 : Int32) rfl (show Dc Y_X12_goDays 43 (.sipush 216) 3 46 from ⟨by decide +kernel, rfl⟩) ?_
      refine J_iald (show Dc Y_X12_goDays 46 (.iaload) 1 47 from ⟨by decide +kernel, rfl⟩) (fun v8 => ?_)
      refine J_callVi (fun r => r) (fun _ => g) (show Dc Y_X12_goDays 47 (.invokevirtual 247) 3 50 from ⟨by decide +kernel, rfl⟩) w_m_RX12_247 w_in_X12_saidOn rfl w_se_X12_saidOn w_cw_X12_saidOn (c_X12_saidOn x0 v7 v8 g) rfl rfl (by decide) (Nat.le_of_ble_eq_true rfl) (by decide) (by decide) (fun v9 => ?_)
      refine J_callSv (fun r => r) (show Dc Y_X12_goDays 50 (.invokestatic 257) 3 53 from ⟨by decide +kernel, rfl⟩) w_m_RX12_257 w_st_X12_hears w_cw_X12_hears (c_X12_hears x1 x4 v9 g) rfl rfl (by decide) (Nat.le_of_ble_eq_true rfl) (by decide) (by decide) (fun g10 => ?_)
      exact j_X12_goDays_53 N x0 x1 x2 x3 x4 g10 h0 hL2 hL10

theorem j_X12_goDays_2 {X : ZX} (N : Nat) (x0 : Nat) (x1 : Nat) (x2 : Int32) (x3 : Int32)   (g : ZS) {K : ((Int32 × ZS) ⊕ ZS) → Prop} (h0 : ∀ g, K (.inr g) → xK X none g) (hL2 : ∀ s, K (.inl s) → zG Y_X12_goDays X 0 0 2 [some (.ref x0), some (.ref x1), some (.int x2), some (.int s.1), none] [] s.2) : J Y_X12_goDays X 0 0 2 [some (.ref x0), some (.ref x1), some (.int x2), some (.int x3), none] [] g (f_X12_goDays_2 N x0 x1 x2 x3 g) K := by
  unfold f_X12_goDays_2
  refine J_iload_n rfl rfl (show Dc Y_X12_goDays 2 (.iload_n 3) 1 3 from ⟨by decide +kernel, rfl⟩) ?_
  refine J_iload_n rfl rfl (show Dc Y_X12_goDays 3 (.iload_n 2) 1 4 from ⟨by decide +kernel, rfl⟩) ?_
  refine J_icmp_ge (tg := 74) (show Dc Y_X12_goDays 4 (.if_icmp .ge 70) 3 7 from ⟨by decide +kernel, rfl⟩) (by decide) (fun h => ?_) (fun h => ?_)
  · refine J_map (f := Sum.inr) (fun _ h => h) ?_
    exact J_ret0 (show Dc Y_X12_goDays 74 (.return_) 1 75 from ⟨by decide +kernel, rfl⟩) rfl (h0 _) (by decide) (by decide)
  · refine J_iconst (0 : Int32) rfl (show Dc Y_X12_goDays 7 (.iconst 0) 1 8 from ⟨by decide +kernel, rfl⟩) ?_
    refine J_istore [some (.ref x0), some (.ref x1), some (.int x2), some (.int x3), some (.int (0 : Int32))] (show Dc Y_X12_goDays 8 (.istore 4) 2 10 from ⟨by decide +kernel, rfl⟩) (by decide) rfl rfl ?_
    exact J_loop (X := X) (K := K) (uc := fun _ => 0) (us := fun _ => 0) (lf := fun s => [some (.ref x0), some (.ref x1), some (.int x2), some (.int x3), some (.int s.1)]) (gf := fun s => s.2) (fun s => j_X12_goDays_10 (K := zKl Y_X12_goDays X 10 (fun _ => 0) (fun _ => 0) (fun s => [some (.ref x0), some (.ref x1), some (.int x2), some (.int x3), some (.int s.1)]) (fun s => s.2) K) N x0 x1 x2 x3 s.1 s.2 h0 hL2 (fun s h => h)) N ((0 : Int32), g)

theorem j_X12_goDays {X : ZX} (N : Nat) (x0 : Nat) (x1 : Nat) (x2 : Int32)   (g : ZS) {K : ZS → Prop} (h0 : ∀ g, K g → xK X none g) : J Y_X12_goDays X 0 0 0 [some (.ref x0), some (.ref x1), some (.int x2), none, none] [] g (f_X12_goDays N x0 x1 x2 g) K := by
  unfold f_X12_goDays
  refine J_iconst (0 : Int32) rfl (show Dc Y_X12_goDays 0 (.iconst 0) 1 1 from ⟨by decide +kernel, rfl⟩) ?_
  refine J_istore_n [some (.ref x0), some (.ref x1), some (.int x2), some (.int (0 : Int32)), none] (show Dc Y_X12_goDays 1 (.istore_n 3) 1 2 from ⟨by decide +kernel, rfl⟩) rfl (by decide) rfl rfl ?_
  exact J_loop (X := X) (K := K) (uc := fun _ => 0) (us := fun _ => 0) (lf := fun s => [some (.ref x0), some (.ref x1), some (.int x2), some (.int s.1), none]) (gf := fun s => s.2) (fun s => j_X12_goDays_2 (K := zKl Y_X12_goDays X 2 (fun _ => 0) (fun _ => 0) (fun s => [some (.ref x0), some (.ref x1), some (.int x2), some (.int s.1), none]) (fun s => s.2) K) N x0 x1 x2 s.1 s.2 h0 (fun s h => h)) N ((0 : Int32), g)

theorem c_X12_goDays {l : Launch} {D : ZD} {B0 : Nat} (N : Nat) (x0 : Nat) (x1 : Nat) (x2 : Int32) (g : ZS) : ∀ r, f_X12_goDays N x0 x1 x2 g = some r → zCt l D B0 yX12_goDays Y_X12_goDays [.ref x0, .ref x1, .int x2] g none r :=
  zCt_ofF (vo := fun _ => none) (so := fun r => r) (by decide +kernel) rfl (fun h => by cases h) rfl (Nat.le_of_ble_eq_true rfl) (fun X => j_X12_goDays N x0 x1 x2 g (fun _ h => h))

theorem j_X12_tell {X : ZX} (x0 : Nat) (x1 : Int64)   (g : ZS) {K : ZS → Prop} (h0 : ∀ g, K g → xK X none g) : J Y_X12_tell X 0 0 0 [some (.ref x0), some (.long x1), none] [] g (f_X12_tell x0 x1 g) K := by
  unfold f_X12_tell
  refine J_aload_n rfl rfl (show Dc Y_X12_tell 0 (.aload_n 0) 1 1 from ⟨by decide +kernel, rfl⟩) ?_
  refine J_getR (show Dc Y_X12_tell 1 (.getfield 29) 3 4 from ⟨by decide +kernel, rfl⟩) w_f_RX12_29 rfl (fun v1 => ?_)
  refine J_aload_n rfl rfl (show Dc Y_X12_tell 4 (.aload_n 0) 1 5 from ⟨by decide +kernel, rfl⟩) ?_
  refine J_getI (show Dc Y_X12_tell 5 (.getfield 113) 3 8 from ⟨by decide +kernel, rfl⟩) w_f_RX12_113 rfl (fun v2 => ?_)
  refine J_lload_n rfl rfl (show Dc Y_X12_tell 8 (.lload_n 1) 1 9 from ⟨by decide +kernel, rfl⟩) ?_
  refine J_last (show Dc Y_X12_tell 9 (.lastore) 1 10 from ⟨by decide +kernel, rfl⟩) (fun g3 => ?_)
  refine J_aload_n rfl rfl (show Dc Y_X12_tell 10 (.aload_n 0) 1 11 from ⟨by decide +kernel, rfl⟩) ?_
  refine J_dup rfl (show Dc Y_X12_tell 11 (.dup) 1 12 from ⟨by decide +kernel, rfl⟩) ?_
  refine J_getI (show Dc Y_X12_tell 12 (.getfield 113) 3 15 from ⟨by decide +kernel, rfl⟩) w_f_RX12_113 rfl (fun v4 => ?_)
  refine J_iconst (1 : Int32) rfl (show Dc Y_X12_tell 15 (.iconst 1) 1 16 from ⟨by decide +kernel, rfl⟩) ?_
  refine J_iadd (show Dc Y_X12_tell 16 (.iadd) 1 17 from ⟨by decide +kernel, rfl⟩) ?_
  refine J_putI (show Dc Y_X12_tell 17 (.putfield 113) 3 20 from ⟨by decide +kernel, rfl⟩) w_f_RX12_113 rfl rfl (fun g5 => ?_) (fun h => by cases h)
  exact J_ret0 (show Dc Y_X12_tell 20 (.return_) 1 21 from ⟨by decide +kernel, rfl⟩) rfl (h0 _) (by decide) (by decide)

theorem c_X12_tell {l : Launch} {D : ZD} {B0 : Nat} (x0 : Nat) (x1 : Int64) (g : ZS) : ∀ r, f_X12_tell x0 x1 g = some r → zCt l D B0 yX12_tell Y_X12_tell [.ref x0, .long x1] g none r :=
  zCt_ofF (vo := fun _ => none) (so := fun r => r) (by decide +kernel) rfl (fun h => by cases h) rfl (Nat.le_of_ble_eq_true rfl) (fun X => j_X12_tell x0 x1 g (fun _ h => h))

theorem j_X12_days_57 {X : ZX} (N : Nat) (x0 : Nat) (x2 : Int32)   (g : ZS) {K : ((Int32 × ZS) ⊕ (Int32 × ZS)) → Prop} (h0 : ∀ v g, K (.inr (v, g)) → xK X (some (.int v)) g) (hL57 : ∀ s, K (.inl s) → zG Y_X12_days X 0 0 57 [some (.ref x0), none, some (.int s.1)] [] s.2) : J Y_X12_days X 0 0 57 [some (.ref x0), none, some (.int x2)] [] g (f_X12_days_57 N x0 x2 g) K := by
  unfold f_X12_days_57
  refine J_iload_n rfl rfl (show Dc Y_X12_days 57 (.iload_n 2) 1 58 from ⟨by decide +kernel, rfl⟩) ?_
  refine J_aload_n rfl rfl (show Dc Y_X12_days 58 (.aload_n 0) 1 59 from ⟨by decide +kernel, rfl⟩) ?_
  refine J_getI (show Dc Y_X12_days 59 (.getfield 116) 3 62 from ⟨by decide +kernel, rfl⟩) w_f_RX12_116 rfl (fun v1 => ?_)
  refine J_icmp_ge (tg := 98) (show Dc Y_X12_days 62 (.if_icmp .ge 36) 3 65 from ⟨by decide +kernel, rfl⟩) (by decide) (fun h => ?_) (fun h => ?_)
  · refine J_map (f := Sum.inr) (fun _ h => h) ?_
    refine J_aload_n rfl rfl (show Dc Y_X12_days 98 (.aload_n 0) 1 99 from ⟨by decide +kernel, rfl⟩) ?_
    refine J_getR (show Dc Y_X12_days 99 (.getfield 9) 3 102 from ⟨by decide +kernel, rfl⟩) w_f_RX12_9 rfl (fun v2 => ?_)
    refine J_sipush (216 : Int32) rfl (show Dc Y_X12_days 102 (.sipush 216) 3 105 from ⟨by decide +kernel, rfl⟩) ?_
    refine J_iald (show Dc Y_X12_days 105 (.iaload) 1 106 from ⟨by decide +kernel, rfl⟩) (fun v3 => ?_)
    exact J_reti (show Dc Y_X12_days 106 (.ireturn) 1 107 from ⟨by decide +kernel, rfl⟩) rfl (h0 _ _) (by decide) (by decide)
  · refine J_aload_n rfl rfl (show Dc Y_X12_days 65 (.aload_n 0) 1 66 from ⟨by decide +kernel, rfl⟩) ?_
    refine J_aload_n rfl rfl (show Dc Y_X12_days 66 (.aload_n 0) 1 67 from ⟨by decide +kernel, rfl⟩) ?_
    refine J_getR (show Dc Y_X12_days 67 (.getfield 9) 3 70 from ⟨by decide +kernel, rfl⟩) w_f_RX12_9 rfl (fun v4 => ?_)
    refine J_iload_n rfl rfl (show Dc Y_X12_days 70 (.iload_n 2) 1 71 from ⟨by decide +kernel, rfl⟩) ?_
    refine J_callSi (fun r => r) (fun _ => g) (show Dc Y_X12_days 71 (.invokestatic 240) 3 74 from ⟨by decide +kernel, rfl⟩) w_m_RX12_240 w_st_X12_heardBits w_cw_X12_heardBits (c_X12_heardBits N v4 x2 g) rfl rfl (by decide) (Nat.le_of_ble_eq_true rfl) (by decide) (by decide) (fun v5 => ?_)
    refine J_aload_n rfl rfl (show Dc Y_X12_days 74 (.aload_n 0) 1 75 from ⟨by decide +kernel, rfl⟩) ?_
    refine J_getR (show Dc Y_X12_days 75 (.getfield 57) 3 78 from ⟨by decide +kernel, rfl⟩) w_f_RX12_57 rfl (fun v6 => ?_)
    refine J_iload_n rfl rfl (show Dc Y_X12_days 78 (.iload_n 2) 1 79 from ⟨by decide +kernel, rfl⟩) ?_
    refine J_callSi (fun r => r) (fun _ => g) (show Dc Y_X12_days 79 (.invokestatic 240) 3 82 from ⟨by decide +kernel, rfl⟩) w_m_RX12_240 w_st_X12_heardBits w_cw_X12_heardBits (c_X12_heardBits N v6 x2 g) rfl rfl (by decide) (Nat.le_of_ble_eq_true rfl) (by decide) (by decide) (fun v7 => ?_)
    refine J_iconst (-1 : Int32) rfl (show Dc Y_X12_days 82 (.iconst (-1)) 1 83 from ⟨by decide +kernel, rfl⟩) ?_
    refine J_ixor (show Dc Y_X12_days 83 (.ixor) 1 84 from ⟨by decide +kernel, rfl⟩) ?_
    refine J_iand (show Dc Y_X12_days 84 (.iand) 1 85 from ⟨by decide +kernel, rfl⟩) ?_
    refine J_callSi (fun r => r) (fun _ => g) (show Dc Y_X12_days 85 (.invokestatic 269) 3 88 from ⟨by decide +kernel, rfl⟩) w_m_RX12_269 w_st_J6_bitCount_0f7a4 w_cw_J6_bitCount_0f7a4 (c_J6_bitCount_0f7a4 (v5 &&& (v7 ^^^ (-1 : Int32))) g) rfl rfl (by decide) (Nat.le_of_ble_eq_true rfl) (by decide) (by decide) (fun v8 => ?_)
    refine J_i2l (show Dc Y_X12_days 88 (.i2l) 1 89 from ⟨by decide +kernel, rfl⟩) ?_
    refine J_callVv (fun r => r) (show Dc Y_X12_days 89 (.invokevirtual 274) 3 92 from ⟨by decide +kernel, rfl⟩) w_m_RX12_274 w_in_X12_tell rfl w_se_X12_tell w_cw_X12_tell (c_X12_tell x0 v8.toInt64 g) rfl rfl (by decide) (Nat.le_of_ble_eq_true rfl) (by decide) (by decide) (fun g9 => ?_)
    refine J_iinc (1 : Int32) [some (.ref x0), none, some (.int (x2 + (1 : Int32)))] (show Dc Y_X12_days 92 (.iinc 2 1) 3 95 from ⟨by decide +kernel, rfl⟩) rfl rfl (by decide) rfl rfl ?_
    refine J_goto (tg := 57) (show Dc Y_X12_days 95 (.goto (-38)) 3 98 from ⟨by decide +kernel, rfl⟩) (by decide) ?_
    exact J_leaf (fun h => hL57 (x2 + (1 : Int32), g9) h)

theorem j_X12_days_41 {X : ZX} (N : Nat) (x0 : Nat) (x1 : Int32)   (g : ZS) {K : (Int32 × ZS) → Prop} (h0 : ∀ v g, K (v, g) → xK X (some (.int v)) g) : J Y_X12_days X 0 0 41 [some (.ref x0), some (.int x1), none] [] g (f_X12_days_41 N x0 x1 g) K := by
  unfold f_X12_days_41
  refine J_aload_n rfl rfl (show Dc Y_X12_days 41 (.aload_n 0) 1 42 from ⟨by decide +kernel, rfl⟩) ?_
  refine J_aload_n rfl rfl (show Dc Y_X12_days 42 (.aload_n 0) 1 43 from ⟨by decide +kernel, rfl⟩) ?_
  refine J_getR (show Dc Y_X12_days 43 (.getfield 9) 3 46 from ⟨by decide +kernel, rfl⟩) w_f_RX12_9 rfl (fun v1 => ?_)
  refine J_iload_n rfl rfl (show Dc Y_X12_days 46 (.iload_n 1) 1 47 from ⟨by decide +kernel, rfl⟩) ?_
  refine J_callVv (fun r => r) (show Dc Y_X12_days 47 (.invokevirtual 265) 3 50 from ⟨by decide +kernel, rfl⟩) w_m_RX12_265 w_in_X12_goDays rfl w_se_X12_goDays w_cw_X12_goDays (c_X12_goDays N x0 v1 x1 g) rfl rfl (by decide) (Nat.le_of_ble_eq_true rfl) (by decide) (by decide) (fun g2 => ?_)
  refine J_aload_n rfl rfl (show Dc Y_X12_days 50 (.aload_n 0) 1 51 from ⟨by decide +kernel, rfl⟩) ?_
  refine J_iconst (0 : Int32) rfl (show Dc Y_X12_days 51 (.iconst 0) 1 52 from ⟨by decide +kernel, rfl⟩) ?_
  refine J_putI (show Dc Y_X12_days 52 (.putfield 113) 3 55 from ⟨by decide +kernel, rfl⟩) w_f_RX12_113 rfl rfl (fun g3 => ?_) (fun h => by cases h)
  refine J_iconst (0 : Int32) rfl (show Dc Y_X12_days 55 (.iconst 0) 1 56 from ⟨by decide +kernel, rfl⟩) ?_
  refine J_istore_n [some (.ref x0), some (.int x1), some (.int (0 : Int32))] (show Dc Y_X12_days 56 (.istore_n 2) 1 57 from ⟨by decide +kernel, rfl⟩) rfl (by decide) rfl rfl ?_
  refine J_mask [true, false, true] ?_
  exact J_loop (X := X) (K := K) (uc := fun _ => 0) (us := fun _ => 0) (lf := fun s => [some (.ref x0), none, some (.int s.1)]) (gf := fun s => s.2) (fun s => j_X12_days_57 (K := zKl Y_X12_days X 57 (fun _ => 0) (fun _ => 0) (fun s => [some (.ref x0), none, some (.int s.1)]) (fun s => s.2) K) N x0 s.1 s.2 h0 (fun s h => h)) N ((0 : Int32), g3)

theorem j_X12_days {X : ZX} (N : Nat) (x0 : Nat) (x1 : Int32)   (g : ZS) {K : (Int32 × ZS) → Prop} (h0 : ∀ v g, K (v, g) → xK X (some (.int v)) g) : J Y_X12_days X 0 0 0 [some (.ref x0), some (.int x1), none] [] g (f_X12_days N x0 x1 g) K := by
  unfold f_X12_days
  refine J_aload_n rfl rfl (show Dc Y_X12_days 0 (.aload_n 0) 1 1 from ⟨by decide +kernel, rfl⟩) ?_
  refine J_iconst (0 : Int32) rfl (show Dc Y_X12_days 1 (.iconst 0) 1 2 from ⟨by decide +kernel, rfl⟩) ?_
  refine J_putI (show Dc Y_X12_days 2 (.putfield 109) 3 5 from ⟨by decide +kernel, rfl⟩) w_f_RX12_109 rfl rfl (fun g1 => ?_) (fun h => by cases h)
  refine J_iload_n rfl rfl (show Dc Y_X12_days 5 (.iload_n 1) 1 6 from ⟨by decide +kernel, rfl⟩) ?_
  refine J_iconst (0 : Int32) rfl (show Dc Y_X12_days 6 (.iconst 0) 1 7 from ⟨by decide +kernel, rfl⟩) ?_
  refine J_bipush (60 : Int32) rfl (show Dc Y_X12_days 7 (.bipush 60) 2 9 from ⟨by decide +kernel, rfl⟩) ?_
  refine J_callSi (fun r => r) (fun _ => g1) (show Dc Y_X12_days 9 (.invokestatic 119) 3 12 from ⟨by decide +kernel, rfl⟩) w_m_RX12_119 w_st_X12_in w_cw_X12_in (c_X12_in x1 (0 : Int32) (60 : Int32) g1) rfl rfl (by decide) (Nat.le_of_ble_eq_true rfl) (by decide) (by decide) (fun v2 => ?_)
  refine J_if_ne (tg := 17) (show Dc Y_X12_days 12 (.ifCond .ne 5) 3 15 from ⟨by decide +kernel, rfl⟩) (by decide) (fun h => ?_) (fun h => ?_)
  · refine J_aload_n rfl rfl (show Dc Y_X12_days 17 (.aload_n 0) 1 18 from ⟨by decide +kernel, rfl⟩) ?_
    refine J_getR (show Dc Y_X12_days 18 (.getfield 9) 3 21 from ⟨by decide +kernel, rfl⟩) w_f_RX12_9 rfl (fun v3 => ?_)
    refine J_aload_n rfl rfl (show Dc Y_X12_days 21 (.aload_n 0) 1 22 from ⟨by decide +kernel, rfl⟩) ?_
    refine J_getR (show Dc Y_X12_days 22 (.getfield 57) 3 25 from ⟨by decide +kernel, rfl⟩) w_f_RX12_57 rfl (fun v4 => ?_)
    refine J_iconst (0 : Int32) rfl (show Dc Y_X12_days 25 (.iconst 0) 1 26 from ⟨by decide +kernel, rfl⟩) ?_
    refine J_callSv (fun r => r) (show Dc Y_X12_days 26 (.invokestatic 253) 3 29 from ⟨by decide +kernel, rfl⟩) w_m_RX12_253 w_st_X12_lay w_cw_X12_lay (c_X12_lay N v3 v4 (0 : Int32) g1) rfl rfl (by decide) (Nat.le_of_ble_eq_true rfl) (by decide) (by decide) (fun g5 => ?_)
    refine J_iload_n rfl rfl (show Dc Y_X12_days 29 (.iload_n 1) 1 30 from ⟨by decide +kernel, rfl⟩) ?_
    refine J_if_le (tg := 41) (show Dc Y_X12_days 30 (.ifCond .le 11) 3 33 from ⟨by decide +kernel, rfl⟩) (by decide) (fun h => ?_) (fun h => ?_)
    · exact j_X12_days_41 N x0 x1 g5 h0
    · refine J_aload_n rfl rfl (show Dc Y_X12_days 33 (.aload_n 0) 1 34 from ⟨by decide +kernel, rfl⟩) ?_
      refine J_aload_n rfl rfl (show Dc Y_X12_days 34 (.aload_n 0) 1 35 from ⟨by decide +kernel, rfl⟩) ?_
      refine J_getR (show Dc Y_X12_days 35 (.getfield 9) 3 38 from ⟨by decide +kernel, rfl⟩) w_f_RX12_9 rfl (fun v6 => ?_)
      refine J_callVv (fun r => r) (show Dc Y_X12_days 38 (.invokevirtual 261) 3 41 from ⟨by decide +kernel, rfl⟩) w_m_RX12_261 w_in_X12_remember rfl w_se_X12_remember w_cw_X12_remember (c_X12_remember N x0 v6 g5) rfl rfl (by decide) (Nat.le_of_ble_eq_true rfl) (by decide) (by decide) (fun g7 => ?_)
      exact j_X12_days_41 N x0 x1 g7 h0
  · refine J_iconst (-1 : Int32) rfl (show Dc Y_X12_days 15 (.iconst (-1)) 1 16 from ⟨by decide +kernel, rfl⟩) ?_
    exact J_reti (show Dc Y_X12_days 16 (.ireturn) 1 17 from ⟨by decide +kernel, rfl⟩) rfl (h0 _ _) (by decide) (by decide)

theorem c_X12_days {l : Launch} {D : ZD} {B0 : Nat} (N : Nat) (x0 : Nat) (x1 : Int32) (g : ZS) : ∀ r, f_X12_days N x0 x1 g = some r → zCt l D B0 yX12_days Y_X12_days [.ref x0, .int x1] g (some (.int r.1)) r.2 :=
  zCt_ofF (vo := fun r => some (.int r.1)) (so := fun r => r.2) (by decide +kernel) rfl (fun h => by cases h) rfl (Nat.le_of_ble_eq_true rfl) (fun X => j_X12_days N x0 x1 g (fun _ _ h => h))

theorem j_X11_bring_15 {X : ZX}    (g : ZS) {K : (Int32 × ZS) → Prop} (h0 : ∀ v g, K (v, g) → xK X (some (.int v)) g) : J Y_X11_bring X 0 0 15 [none, none, none, none, none] [] g (f_X11_bring_15 g) K := by
  unfold f_X11_bring_15
  refine J_iconst (-1 : Int32) rfl (show Dc Y_X11_bring 15 (.iconst (-1)) 1 16 from ⟨by decide +kernel, rfl⟩) ?_
  exact J_reti (show Dc Y_X11_bring 16 (.ireturn) 1 17 from ⟨by decide +kernel, rfl⟩) rfl (h0 _ _) (by decide) (by decide)

theorem j_X11_bring {X : ZX} (x0 : Nat) (x1 : Int32) (x2 : Int32)   (g : ZS) {K : (Int32 × ZS) → Prop} (h0 : ∀ v g, K (v, g) → xK X (some (.int v)) g) : J Y_X11_bring X 0 0 0 [some (.ref x0), some (.int x1), some (.int x2), none, none] [] g (f_X11_bring x0 x1 x2 g) K := by
  unfold f_X11_bring
  refine J_aload_n rfl rfl (show Dc Y_X11_bring 0 (.aload_n 0) 1 1 from ⟨by decide +kernel, rfl⟩) ?_
  refine J_iload_n rfl rfl (show Dc Y_X11_bring 1 (.iload_n 1) 1 2 from ⟨by decide +kernel, rfl⟩) ?_
  refine J_callVi (fun r => r) (fun _ => g) (show Dc Y_X11_bring 2 (.invokevirtual 241) 3 5 from ⟨by decide +kernel, rfl⟩) w_m_RX11_241 w_in_X6_isIn rfl w_se_X6_isIn w_cw_X6_isIn (c_X6_isIn x0 x1 g) rfl rfl (by decide) (Nat.le_of_ble_eq_true rfl) (by decide) (by decide) (fun v1 => ?_)
  refine J_if_eq (tg := 15) (show Dc Y_X11_bring 5 (.ifCond .eq 10) 3 8 from ⟨by decide +kernel, rfl⟩) (by decide) (fun h => ?_) (fun h => ?_)
  · refine J_mask [false, false, false, false, false] ?_
    exact j_X11_bring_15 g h0
  · refine J_iload_n rfl rfl (show Dc Y_X11_bring 8 (.iload_n 2) 1 9 from ⟨by decide +kernel, rfl⟩) ?_
    refine J_callSi (fun r => r) (fun _ => g) (show Dc Y_X11_bring 9 (.invokestatic 114) 3 12 from ⟨by decide +kernel, rfl⟩) w_m_RX11_114 w_st_X11_isHouse w_cw_X11_isHouse (c_X11_isHouse x2 g) rfl rfl (by decide) (Nat.le_of_ble_eq_true rfl) (by decide) (by decide) (fun v2 => ?_)
    refine J_if_ne (tg := 17) (show Dc Y_X11_bring 12 (.ifCond .ne 5) 3 15 from ⟨by decide +kernel, rfl⟩) (by decide) (fun h => ?_) (fun h => ?_)
    · refine J_aload_n rfl rfl (show Dc Y_X11_bring 17 (.aload_n 0) 1 18 from ⟨by decide +kernel, rfl⟩) ?_
      refine J_getR (show Dc Y_X11_bring 18 (.getfield 171) 3 21 from ⟨by decide +kernel, rfl⟩) w_f_RX11_171 rfl (fun v3 => ?_)
      refine J_iload_n rfl rfl (show Dc Y_X11_bring 21 (.iload_n 1) 1 22 from ⟨by decide +kernel, rfl⟩) ?_
      refine J_aald (kd := 25) (by decide) (by decide) (show Dc Y_X11_bring 22 (.aaload) 1 23 from ⟨by decide +kernel, rfl⟩) (fun v4 => ?_)
      refine J_astore_n [some (.ref x0), some (.int x1), some (.int x2), some (.ref v4), none] (show Dc Y_X11_bring 23 (.astore_n 3) 1 24 from ⟨by decide +kernel, rfl⟩) rfl (by decide) rfl rfl ?_
      refine J_aload_n rfl rfl (show Dc Y_X11_bring 24 (.aload_n 3) 1 25 from ⟨by decide +kernel, rfl⟩) ?_
      refine J_getI (show Dc Y_X11_bring 25 (.getfield 175) 3 28 from ⟨by decide +kernel, rfl⟩) w_f_RX11_175 rfl (fun v5 => ?_)
      refine J_istore [some (.ref x0), some (.int x1), some (.int x2), some (.ref v4), some (.int v5)] (show Dc Y_X11_bring 28 (.istore 4) 2 30 from ⟨by decide +kernel, rfl⟩) (by decide) rfl rfl ?_
      refine J_iload rfl (show Dc Y_X11_bring 30 (.iload 4) 2 32 from ⟨by decide +kernel, rfl⟩) ?_
      refine J_iload_n rfl rfl (show Dc Y_X11_bring 32 (.iload_n 2) 1 33 from ⟨by decide +kernel, rfl⟩) ?_
      refine J_icmp_ne (tg := 39) (show Dc Y_X11_bring 33 (.if_icmp .ne 6) 3 36 from ⟨by decide +kernel, rfl⟩) (by decide) (fun h => ?_) (fun h => ?_)
      · refine J_aload_n rfl rfl (show Dc Y_X11_bring 39 (.aload_n 3) 1 40 from ⟨by decide +kernel, rfl⟩) ?_
        refine J_iload_n rfl rfl (show Dc Y_X11_bring 40 (.iload_n 2) 1 41 from ⟨by decide +kernel, rfl⟩) ?_
        refine J_putI (show Dc Y_X11_bring 41 (.putfield 175) 3 44 from ⟨by decide +kernel, rfl⟩) w_f_RX11_175 rfl rfl (fun g6 => ?_) (fun h => by cases h)
        refine J_iload rfl (show Dc Y_X11_bring 44 (.iload 4) 2 46 from ⟨by decide +kernel, rfl⟩) ?_
        exact J_reti (show Dc Y_X11_bring 46 (.ireturn) 1 47 from ⟨by decide +kernel, rfl⟩) rfl (h0 _ _) (by decide) (by decide)
      · refine J_bipush (-2 : Int32) rfl (show Dc Y_X11_bring 36 (.bipush (-2)) 2 38 from ⟨by decide +kernel, rfl⟩) ?_
        exact J_reti (show Dc Y_X11_bring 38 (.ireturn) 1 39 from ⟨by decide +kernel, rfl⟩) rfl (h0 _ _) (by decide) (by decide)
    · refine J_mask [false, false, false, false, false] ?_
      exact j_X11_bring_15 g h0

theorem c_X11_bring {l : Launch} {D : ZD} {B0 : Nat} (x0 : Nat) (x1 : Int32) (x2 : Int32) (g : ZS) : ∀ r, f_X11_bring x0 x1 x2 g = some r → zCt l D B0 yX11_bring Y_X11_bring [.ref x0, .int x1, .int x2] g (some (.int r.1)) r.2 :=
  zCt_ofF (vo := fun r => some (.int r.1)) (so := fun r => r.2) (by decide +kernel) rfl (fun h => by cases h) rfl (Nat.le_of_ble_eq_true rfl) (fun X => j_X11_bring x0 x1 x2 g (fun _ _ h => h))

theorem j_X12_refusesMove_15 {X : ZX}    (g : ZS) {K : Int32 → Prop} (h0 : ∀ v, K v → xK X (some (.int v)) g) : J Y_X12_refusesMove X 0 0 15 [none, none, none] [] g (f_X12_refusesMove_15 g) K := by
  unfold f_X12_refusesMove_15
  refine J_iconst (-1 : Int32) rfl (show Dc Y_X12_refusesMove 15 (.iconst (-1)) 1 16 from ⟨by decide +kernel, rfl⟩) ?_
  exact J_reti (show Dc Y_X12_refusesMove 16 (.ireturn) 1 17 from ⟨by decide +kernel, rfl⟩) rfl (h0 _) (by decide) (by decide)

theorem j_X12_refusesMove_37 {X : ZX}  (s0 : Int32)  (g : ZS) {K : Int32 → Prop} (h0 : ∀ v, K v → xK X (some (.int v)) g) : J Y_X12_refusesMove X 0 0 37 [none, none, none] [.int s0] g (f_X12_refusesMove_37 s0 g) K := by
  unfold f_X12_refusesMove_37
  exact J_reti (show Dc Y_X12_refusesMove 37 (.ireturn) 1 38 from ⟨by decide +kernel, rfl⟩) rfl (h0 _) (by decide) (by decide)

theorem j_X12_refusesMove {X : ZX} (x0 : Nat) (x1 : Int32) (x2 : Int32)   (g : ZS) {K : Int32 → Prop} (h0 : ∀ v, K v → xK X (some (.int v)) g) : J Y_X12_refusesMove X 0 0 0 [some (.ref x0), some (.int x1), some (.int x2)] [] g (f_X12_refusesMove x0 x1 x2 g) K := by
  unfold f_X12_refusesMove
  refine J_aload_n rfl rfl (show Dc Y_X12_refusesMove 0 (.aload_n 0) 1 1 from ⟨by decide +kernel, rfl⟩) ?_
  refine J_iload_n rfl rfl (show Dc Y_X12_refusesMove 1 (.iload_n 1) 1 2 from ⟨by decide +kernel, rfl⟩) ?_
  refine J_callVi (fun r => r) (fun _ => g) (show Dc Y_X12_refusesMove 2 (.invokevirtual 234) 3 5 from ⟨by decide +kernel, rfl⟩) w_m_RX12_234 w_in_X12_isParrot rfl w_se_X12_isParrot w_cw_X12_isParrot (c_X12_isParrot x0 x1 g) rfl rfl (by decide) (Nat.le_of_ble_eq_true rfl) (by decide) (by decide) (fun v1 => ?_)
  refine J_if_eq (tg := 15) (show Dc Y_X12_refusesMove 5 (.ifCond .eq 10) 3 8 from ⟨by decide +kernel, rfl⟩) (by decide) (fun h => ?_) (fun h => ?_)
  · refine J_mask [false, false, false] ?_
    exact j_X12_refusesMove_15 g h0
  · refine J_iload_n rfl rfl (show Dc Y_X12_refusesMove 8 (.iload_n 2) 1 9 from ⟨by decide +kernel, rfl⟩) ?_
    refine J_callSi (fun r => r) (fun _ => g) (show Dc Y_X12_refusesMove 9 (.invokestatic 171) 3 12 from ⟨by decide +kernel, rfl⟩) w_m_RX12_171 w_st_X12_isHouse w_cw_X12_isHouse (c_X12_isHouse x2 g) rfl rfl (by decide) (Nat.le_of_ble_eq_true rfl) (by decide) (by decide) (fun v2 => ?_)
    refine J_if_ne (tg := 17) (show Dc Y_X12_refusesMove 12 (.ifCond .ne 5) 3 15 from ⟨by decide +kernel, rfl⟩) (by decide) (fun h => ?_) (fun h => ?_)
    · refine J_aload_n rfl rfl (show Dc Y_X12_refusesMove 17 (.aload_n 0) 1 18 from ⟨by decide +kernel, rfl⟩) ?_
      refine J_getR (show Dc Y_X12_refusesMove 18 (.getfield 9) 3 21 from ⟨by decide +kernel, rfl⟩) w_f_RX12_9 rfl (fun v3 => ?_)
      refine J_iload_n rfl rfl (show Dc Y_X12_refusesMove 21 (.iload_n 1) 1 22 from ⟨by decide +kernel, rfl⟩) ?_
      refine J_iconst (0 : Int32) rfl (show Dc Y_X12_refusesMove 22 (.iconst 0) 1 23 from ⟨by decide +kernel, rfl⟩) ?_
      refine J_callSi (fun r => r) (fun _ => g) (show Dc Y_X12_refusesMove 23 (.invokestatic 179) 3 26 from ⟨by decide +kernel, rfl⟩) w_m_RX12_179 w_st_X12_of w_cw_X12_of (c_X12_of x1 (0 : Int32) g) rfl rfl (by decide) (Nat.le_of_ble_eq_true rfl) (by decide) (by decide) (fun v4 => ?_)
      refine J_iald (show Dc Y_X12_refusesMove 26 (.iaload) 1 27 from ⟨by decide +kernel, rfl⟩) (fun v5 => ?_)
      refine J_iload_n rfl rfl (show Dc Y_X12_refusesMove 27 (.iload_n 2) 1 28 from ⟨by decide +kernel, rfl⟩) ?_
      refine J_icmp_ne (tg := 36) (show Dc Y_X12_refusesMove 28 (.if_icmp .ne 8) 3 31 from ⟨by decide +kernel, rfl⟩) (by decide) (fun h => ?_) (fun h => ?_)
      · refine J_iconst (0 : Int32) rfl (show Dc Y_X12_refusesMove 36 (.iconst 0) 1 37 from ⟨by decide +kernel, rfl⟩) ?_
        refine J_mask [false, false, false] ?_
        exact j_X12_refusesMove_37 (0 : Int32) g h0
      · refine J_bipush (-2 : Int32) rfl (show Dc Y_X12_refusesMove 31 (.bipush (-2)) 2 33 from ⟨by decide +kernel, rfl⟩) ?_
        refine J_goto (tg := 37) (show Dc Y_X12_refusesMove 33 (.goto 4) 3 36 from ⟨by decide +kernel, rfl⟩) (by decide) ?_
        refine J_mask [false, false, false] ?_
        exact j_X12_refusesMove_37 (-2 : Int32) g h0
    · refine J_mask [false, false, false] ?_
      exact j_X12_refusesMove_15 g h0

theorem c_X12_refusesMove {l : Launch} {D : ZD} {B0 : Nat} (x0 : Nat) (x1 : Int32) (x2 : Int32) (g : ZS) : ∀ r, f_X12_refusesMove x0 x1 x2 g = some r → zCt l D B0 yX12_refusesMove Y_X12_refusesMove [.ref x0, .int x1, .int x2] g (some (.int r)) g :=
  zCt_ofF (vo := fun r => some (.int r)) (so := fun _ => g) (by decide +kernel) rfl (fun h => by cases h) rfl (Nat.le_of_ble_eq_true rfl) (fun X => j_X12_refusesMove x0 x1 x2 g (fun _ h => h))

theorem j_X12_move {X : ZX} (N : Nat) (x0 : Nat) (x1 : Int32) (x2 : Int32)   (g : ZS) {K : (Int32 × ZS) → Prop} (h0 : ∀ v g, K (v, g) → xK X (some (.int v)) g) : J Y_X12_move X 0 0 0 [some (.ref x0), some (.int x1), some (.int x2), none, none] [] g (f_X12_move N x0 x1 x2 g) K := by
  unfold f_X12_move
  refine J_aload_n rfl rfl (show Dc Y_X12_move 0 (.aload_n 0) 1 1 from ⟨by decide +kernel, rfl⟩) ?_
  refine J_iconst (0 : Int32) rfl (show Dc Y_X12_move 1 (.iconst 0) 1 2 from ⟨by decide +kernel, rfl⟩) ?_
  refine J_putI (show Dc Y_X12_move 2 (.putfield 109) 3 5 from ⟨by decide +kernel, rfl⟩) w_f_RX12_109 rfl rfl (fun g1 => ?_) (fun h => by cases h)
  refine J_aload_n rfl rfl (show Dc Y_X12_move 5 (.aload_n 0) 1 6 from ⟨by decide +kernel, rfl⟩) ?_
  refine J_iload_n rfl rfl (show Dc Y_X12_move 6 (.iload_n 1) 1 7 from ⟨by decide +kernel, rfl⟩) ?_
  refine J_iload_n rfl rfl (show Dc Y_X12_move 7 (.iload_n 2) 1 8 from ⟨by decide +kernel, rfl⟩) ?_
  refine J_callVi (fun r => r) (fun _ => g1) (show Dc Y_X12_move 8 (.invokevirtual 278) 3 11 from ⟨by decide +kernel, rfl⟩) w_m_RX12_278 w_in_X12_refusesMove rfl w_se_X12_refusesMove w_cw_X12_refusesMove (c_X12_refusesMove x0 x1 x2 g1) rfl rfl (by decide) (Nat.le_of_ble_eq_true rfl) (by decide) (by decide) (fun v2 => ?_)
  refine J_istore_n [some (.ref x0), some (.int x1), some (.int x2), some (.int v2), none] (show Dc Y_X12_move 11 (.istore_n 3) 1 12 from ⟨by decide +kernel, rfl⟩) rfl (by decide) rfl rfl ?_
  refine J_iload_n rfl rfl (show Dc Y_X12_move 12 (.iload_n 3) 1 13 from ⟨by decide +kernel, rfl⟩) ?_
  refine J_if_ge (tg := 18) (show Dc Y_X12_move 13 (.ifCond .ge 5) 3 16 from ⟨by decide +kernel, rfl⟩) (by decide) (fun h => ?_) (fun h => ?_)
  · refine J_aload_n rfl rfl (show Dc Y_X12_move 18 (.aload_n 0) 1 19 from ⟨by decide +kernel, rfl⟩) ?_
    refine J_aload_n rfl rfl (show Dc Y_X12_move 19 (.aload_n 0) 1 20 from ⟨by decide +kernel, rfl⟩) ?_
    refine J_getR (show Dc Y_X12_move 20 (.getfield 9) 3 23 from ⟨by decide +kernel, rfl⟩) w_f_RX12_9 rfl (fun v3 => ?_)
    refine J_callVv (fun r => r) (show Dc Y_X12_move 23 (.invokevirtual 261) 3 26 from ⟨by decide +kernel, rfl⟩) w_m_RX12_261 w_in_X12_remember rfl w_se_X12_remember w_cw_X12_remember (c_X12_remember N x0 v3 g1) rfl rfl (by decide) (Nat.le_of_ble_eq_true rfl) (by decide) (by decide) (fun g4 => ?_)
    refine J_aload_n rfl rfl (show Dc Y_X12_move 26 (.aload_n 0) 1 27 from ⟨by decide +kernel, rfl⟩) ?_
    refine J_getR (show Dc Y_X12_move 27 (.getfield 9) 3 30 from ⟨by decide +kernel, rfl⟩) w_f_RX12_9 rfl (fun v5 => ?_)
    refine J_iload_n rfl rfl (show Dc Y_X12_move 30 (.iload_n 1) 1 31 from ⟨by decide +kernel, rfl⟩) ?_
    refine J_iconst (0 : Int32) rfl (show Dc Y_X12_move 31 (.iconst 0) 1 32 from ⟨by decide +kernel, rfl⟩) ?_
    refine J_callSi (fun r => r) (fun _ => g4) (show Dc Y_X12_move 32 (.invokestatic 179) 3 35 from ⟨by decide +kernel, rfl⟩) w_m_RX12_179 w_st_X12_of w_cw_X12_of (c_X12_of x1 (0 : Int32) g4) rfl rfl (by decide) (Nat.le_of_ble_eq_true rfl) (by decide) (by decide) (fun v6 => ?_)
    refine J_iald (show Dc Y_X12_move 35 (.iaload) 1 36 from ⟨by decide +kernel, rfl⟩) (fun v7 => ?_)
    refine J_istore [some (.ref x0), some (.int x1), some (.int x2), some (.int v2), some (.int v7)] (show Dc Y_X12_move 36 (.istore 4) 2 38 from ⟨by decide +kernel, rfl⟩) (by decide) rfl rfl ?_
    refine J_aload_n rfl rfl (show Dc Y_X12_move 38 (.aload_n 0) 1 39 from ⟨by decide +kernel, rfl⟩) ?_
    refine J_getR (show Dc Y_X12_move 39 (.getfield 9) 3 42 from ⟨by decide +kernel, rfl⟩) w_f_RX12_9 rfl (fun v8 => ?_)
    refine J_iload_n rfl rfl (show Dc Y_X12_move 42 (.iload_n 1) 1 43 from ⟨by decide +kernel, rfl⟩) ?_
    refine J_iconst (0 : Int32) rfl (show Dc Y_X12_move 43 (.iconst 0) 1 44 from ⟨by decide +kernel, rfl⟩) ?_
    refine J_callSi (fun r => r) (fun _ => g4) (show Dc Y_X12_move 44 (.invokestatic 179) 3 47 from ⟨by decide +kernel, rfl⟩) w_m_RX12_179 w_st_X12_of w_cw_X12_of (c_X12_of x1 (0 : Int32) g4) rfl rfl (by decide) (Nat.le_of_ble_eq_true rfl) (by decide) (by decide) (fun v9 => ?_)
    refine J_iload_n rfl rfl (show Dc Y_X12_move 47 (.iload_n 2) 1 48 from ⟨by decide +kernel, rfl⟩) ?_
    refine J_iast (show Dc Y_X12_move 48 (.iastore) 1 49 from ⟨by decide +kernel, rfl⟩) (fun g10 => ?_)
    refine J_iload rfl (show Dc Y_X12_move 49 (.iload 4) 2 51 from ⟨by decide +kernel, rfl⟩) ?_
    exact J_reti (show Dc Y_X12_move 51 (.ireturn) 1 52 from ⟨by decide +kernel, rfl⟩) rfl (h0 _ _) (by decide) (by decide)
  · refine J_iload_n rfl rfl (show Dc Y_X12_move 16 (.iload_n 3) 1 17 from ⟨by decide +kernel, rfl⟩) ?_
    exact J_reti (show Dc Y_X12_move 17 (.ireturn) 1 18 from ⟨by decide +kernel, rfl⟩) rfl (h0 _ _) (by decide) (by decide)

theorem c_X12_move {l : Launch} {D : ZD} {B0 : Nat} (N : Nat) (x0 : Nat) (x1 : Int32) (x2 : Int32) (g : ZS) : ∀ r, f_X12_move N x0 x1 x2 g = some r → zCt l D B0 yX12_move Y_X12_move [.ref x0, .int x1, .int x2] g (some (.int r.1)) r.2 :=
  zCt_ofF (vo := fun r => some (.int r.1)) (so := fun r => r.2) (by decide +kernel) rfl (fun h => by cases h) rfl (Nat.le_of_ble_eq_true rfl) (fun X => j_X12_move N x0 x1 x2 g (fun _ _ h => h))

theorem j_X6_covered_32 {X : ZX} (N : Nat) (x0 : Nat) (x2 : Int32) (s0 : Int32) (s1 : Int32)  (g : ZS) {K : ((Int32 × Int32) ⊕ Int32) → Prop} (h0 : ∀ v, K (.inr v) → xK X (some (.int v)) g) (hL4 : ∀ s, K (.inl s) → zG Y_X6_covered X 0 0 4 [some (.ref x0), some (.int s.1), some (.int s.2)] [] g) : J Y_X6_covered X 0 0 32 [some (.ref x0), none, some (.int x2)] [.int s1, .int s0] g (f_X6_covered_32 N x0 x2 s0 s1 g) K := by
  unfold f_X6_covered_32
  refine J_ior (show Dc Y_X6_covered 32 (.ior) 1 33 from ⟨by decide +kernel, rfl⟩) ?_
  refine J_istore_n [some (.ref x0), some (.int (s0 ||| s1)), some (.int x2)] (show Dc Y_X6_covered 33 (.istore_n 1) 1 34 from ⟨by decide +kernel, rfl⟩) rfl (by decide) rfl rfl ?_
  refine J_iinc (1 : Int32) [some (.ref x0), some (.int (s0 ||| s1)), some (.int (x2 + (1 : Int32)))] (show Dc Y_X6_covered 34 (.iinc 2 1) 3 37 from ⟨by decide +kernel, rfl⟩) rfl rfl (by decide) rfl rfl ?_
  refine J_goto (tg := 4) (show Dc Y_X6_covered 37 (.goto (-33)) 3 40 from ⟨by decide +kernel, rfl⟩) (by decide) ?_
  exact J_leaf (fun h => hL4 (s0 ||| s1, x2 + (1 : Int32)) h)

theorem j_X6_covered_4 {X : ZX} (N : Nat) (x0 : Nat) (x1 : Int32) (x2 : Int32)   (g : ZS) {K : ((Int32 × Int32) ⊕ Int32) → Prop} (h0 : ∀ v, K (.inr v) → xK X (some (.int v)) g) (hL4 : ∀ s, K (.inl s) → zG Y_X6_covered X 0 0 4 [some (.ref x0), some (.int s.1), some (.int s.2)] [] g) : J Y_X6_covered X 0 0 4 [some (.ref x0), some (.int x1), some (.int x2)] [] g (f_X6_covered_4 N x0 x1 x2 g) K := by
  unfold f_X6_covered_4
  refine J_iload_n rfl rfl (show Dc Y_X6_covered 4 (.iload_n 2) 1 5 from ⟨by decide +kernel, rfl⟩) ?_
  refine J_aload_n rfl rfl (show Dc Y_X6_covered 5 (.aload_n 0) 1 6 from ⟨by decide +kernel, rfl⟩) ?_
  refine J_getI (show Dc Y_X6_covered 6 (.getfield 18) 3 9 from ⟨by decide +kernel, rfl⟩) w_f_RX6_18 rfl (fun v1 => ?_)
  refine J_icmp_ge (tg := 40) (show Dc Y_X6_covered 9 (.if_icmp .ge 31) 3 12 from ⟨by decide +kernel, rfl⟩) (by decide) (fun h => ?_) (fun h => ?_)
  · refine J_map (f := Sum.inr) (fun _ h => h) ?_
    refine J_iload_n rfl rfl (show Dc Y_X6_covered 40 (.iload_n 1) 1 41 from ⟨by decide +kernel, rfl⟩) ?_
    exact J_reti (show Dc Y_X6_covered 41 (.ireturn) 1 42 from ⟨by decide +kernel, rfl⟩) rfl (h0 _) (by decide) (by decide)
  · refine J_iload_n rfl rfl (show Dc Y_X6_covered 12 (.iload_n 1) 1 13 from ⟨by decide +kernel, rfl⟩) ?_
    refine J_aload_n rfl rfl (show Dc Y_X6_covered 13 (.aload_n 0) 1 14 from ⟨by decide +kernel, rfl⟩) ?_
    refine J_getR (show Dc Y_X6_covered 14 (.getfield 11) 3 17 from ⟨by decide +kernel, rfl⟩) w_f_RX6_11 rfl (fun v2 => ?_)
    refine J_iload_n rfl rfl (show Dc Y_X6_covered 17 (.iload_n 2) 1 18 from ⟨by decide +kernel, rfl⟩) ?_
    refine J_aald (kd := 25) (by decide) (by decide) (show Dc Y_X6_covered 18 (.aaload) 1 19 from ⟨by decide +kernel, rfl⟩) (fun v3 => ?_)
    refine J_getI (show Dc Y_X6_covered 19 (.getfield 35) 3 22 from ⟨by decide +kernel, rfl⟩) w_f_RX6_35 rfl (fun v4 => ?_)
    refine J_if_eq (tg := 31) (show Dc Y_X6_covered 22 (.ifCond .eq 9) 3 25 from ⟨by decide +kernel, rfl⟩) (by decide) (fun h => ?_) (fun h => ?_)
    · refine J_iconst (0 : Int32) rfl (show Dc Y_X6_covered 31 (.iconst 0) 1 32 from ⟨by decide +kernel, rfl⟩) ?_
      refine J_mask [true, false, true] ?_
      exact j_X6_covered_32 N x0 x2 x1 (0 : Int32) g h0 hL4
    · refine J_iconst (1 : Int32) rfl (show Dc Y_X6_covered 25 (.iconst 1) 1 26 from ⟨by decide +kernel, rfl⟩) ?_
      refine J_iload_n rfl rfl (show Dc Y_X6_covered 26 (.iload_n 2) 1 27 from ⟨by decide +kernel, rfl⟩) ?_
      refine J_ishl (show Dc Y_X6_covered 27 (.ishl) 1 28 from ⟨by decide +kernel, rfl⟩) ?_
      refine J_goto (tg := 32) (show Dc Y_X6_covered 28 (.goto 4) 3 31 from ⟨by decide +kernel, rfl⟩) (by decide) ?_
      refine J_mask [true, false, true] ?_
      exact j_X6_covered_32 N x0 x2 x1 ((1 : Int32) <<< (x2 &&& 31)) g h0 hL4

theorem j_X6_covered {X : ZX} (N : Nat) (x0 : Nat)   (g : ZS) {K : Int32 → Prop} (h0 : ∀ v, K v → xK X (some (.int v)) g) : J Y_X6_covered X 0 0 0 [some (.ref x0), none, none] [] g (f_X6_covered N x0 g) K := by
  unfold f_X6_covered
  refine J_iconst (0 : Int32) rfl (show Dc Y_X6_covered 0 (.iconst 0) 1 1 from ⟨by decide +kernel, rfl⟩) ?_
  refine J_istore_n [some (.ref x0), some (.int (0 : Int32)), none] (show Dc Y_X6_covered 1 (.istore_n 1) 1 2 from ⟨by decide +kernel, rfl⟩) rfl (by decide) rfl rfl ?_
  refine J_iconst (0 : Int32) rfl (show Dc Y_X6_covered 2 (.iconst 0) 1 3 from ⟨by decide +kernel, rfl⟩) ?_
  refine J_istore_n [some (.ref x0), some (.int (0 : Int32)), some (.int (0 : Int32))] (show Dc Y_X6_covered 3 (.istore_n 2) 1 4 from ⟨by decide +kernel, rfl⟩) rfl (by decide) rfl rfl ?_
  exact J_loop (X := X) (K := K) (uc := fun _ => 0) (us := fun _ => 0) (lf := fun s => [some (.ref x0), some (.int s.1), some (.int s.2)]) (gf := fun s => g) (fun s => j_X6_covered_4 (K := zKl Y_X6_covered X 4 (fun _ => 0) (fun _ => 0) (fun s => [some (.ref x0), some (.int s.1), some (.int s.2)]) (fun s => g) K) N x0 s.1 s.2 g h0 (fun s h => h)) N ((0 : Int32), (0 : Int32))

theorem c_X6_covered {l : Launch} {D : ZD} {B0 : Nat} (N : Nat) (x0 : Nat) (g : ZS) : ∀ r, f_X6_covered N x0 g = some r → zCt l D B0 yX6_covered Y_X6_covered [.ref x0] g (some (.int r)) g :=
  zCt_ofF (vo := fun r => some (.int r)) (so := fun _ => g) (by decide +kernel) rfl (fun h => by cases h) rfl (Nat.le_of_ble_eq_true rfl) (fun X => j_X6_covered N x0 g (fun _ h => h))

theorem j_X11_cover_33 {X : ZX} (N : Nat) (x0 : Nat) (s0 : Nat) (s1 : Int32)  (g : ZS) {K : (Int32 × ZS) → Prop} (h0 : ∀ v g, K (v, g) → xK X (some (.int v)) g) : J Y_X11_cover X 0 0 33 [some (.ref x0), none, none] [.int s1, .ref s0] g (f_X11_cover_33 N x0 s0 s1 g) K := by
  unfold f_X11_cover_33
  refine J_putZ (show Dc Y_X11_cover 33 (.putfield 181) 3 36 from ⟨by decide +kernel, rfl⟩) w_f_RX11_181 rfl rfl (fun g1 => ?_) (fun h => by cases h)
  refine J_aload_n rfl rfl (show Dc Y_X11_cover 36 (.aload_n 0) 1 37 from ⟨by decide +kernel, rfl⟩) ?_
  refine J_getR (show Dc Y_X11_cover 37 (.getfield 47) 3 40 from ⟨by decide +kernel, rfl⟩) w_f_RX11_47 rfl (fun v2 => ?_)
  refine J_callVi (fun r => r) (fun _ => g1) (show Dc Y_X11_cover 40 (.invokevirtual 281) 3 43 from ⟨by decide +kernel, rfl⟩) w_m_RX11_281 w_in_X6_covered rfl w_se_X6_covered w_cw_X6_covered (c_X6_covered N v2 g1) rfl rfl (by decide) (Nat.le_of_ble_eq_true rfl) (by decide) (by decide) (fun v3 => ?_)
  refine J_callSi (fun r => r) (fun _ => g1) (show Dc Y_X11_cover 43 (.invokestatic 255) 3 46 from ⟨by decide +kernel, rfl⟩) w_m_RX11_255 w_st_J6_bitCount_0f7a4 w_cw_J6_bitCount_0f7a4 (c_J6_bitCount_0f7a4 v3 g1) rfl rfl (by decide) (Nat.le_of_ble_eq_true rfl) (by decide) (by decide) (fun v4 => ?_)
  exact J_reti (show Dc Y_X11_cover 46 (.ireturn) 1 47 from ⟨by decide +kernel, rfl⟩) rfl (h0 _ _) (by decide) (by decide)

theorem j_X11_cover {X : ZX} (N : Nat) (x0 : Nat) (x1 : Int32)   (g : ZS) {K : (Int32 × ZS) → Prop} (h0 : ∀ v g, K (v, g) → xK X (some (.int v)) g) : J Y_X11_cover X 0 0 0 [some (.ref x0), some (.int x1), none] [] g (f_X11_cover N x0 x1 g) K := by
  unfold f_X11_cover
  refine J_aload_n rfl rfl (show Dc Y_X11_cover 0 (.aload_n 0) 1 1 from ⟨by decide +kernel, rfl⟩) ?_
  refine J_iload_n rfl rfl (show Dc Y_X11_cover 1 (.iload_n 1) 1 2 from ⟨by decide +kernel, rfl⟩) ?_
  refine J_callVi (fun r => r) (fun _ => g) (show Dc Y_X11_cover 2 (.invokevirtual 161) 3 5 from ⟨by decide +kernel, rfl⟩) w_m_RX11_161 w_in_X11_isParrot rfl w_se_X11_isParrot w_cw_X11_isParrot (c_X11_isParrot x0 x1 g) rfl rfl (by decide) (Nat.le_of_ble_eq_true rfl) (by decide) (by decide) (fun v1 => ?_)
  refine J_if_ne (tg := 10) (show Dc Y_X11_cover 5 (.ifCond .ne 5) 3 8 from ⟨by decide +kernel, rfl⟩) (by decide) (fun h => ?_) (fun h => ?_)
  · refine J_aload_n rfl rfl (show Dc Y_X11_cover 10 (.aload_n 0) 1 11 from ⟨by decide +kernel, rfl⟩) ?_
    refine J_getR (show Dc Y_X11_cover 11 (.getfield 47) 3 14 from ⟨by decide +kernel, rfl⟩) w_f_RX11_47 rfl (fun v2 => ?_)
    refine J_getR (show Dc Y_X11_cover 14 (.getfield 171) 3 17 from ⟨by decide +kernel, rfl⟩) w_f_RX11_171 rfl (fun v3 => ?_)
    refine J_iload_n rfl rfl (show Dc Y_X11_cover 17 (.iload_n 1) 1 18 from ⟨by decide +kernel, rfl⟩) ?_
    refine J_aald (kd := 25) (by decide) (by decide) (show Dc Y_X11_cover 18 (.aaload) 1 19 from ⟨by decide +kernel, rfl⟩) (fun v4 => ?_)
    refine J_astore_n [some (.ref x0), some (.int x1), some (.ref v4)] (show Dc Y_X11_cover 19 (.astore_n 2) 1 20 from ⟨by decide +kernel, rfl⟩) rfl (by decide) rfl rfl ?_
    refine J_aload_n rfl rfl (show Dc Y_X11_cover 20 (.aload_n 2) 1 21 from ⟨by decide +kernel, rfl⟩) ?_
    refine J_aload_n rfl rfl (show Dc Y_X11_cover 21 (.aload_n 2) 1 22 from ⟨by decide +kernel, rfl⟩) ?_
    refine J_getI (show Dc Y_X11_cover 22 (.getfield 181) 3 25 from ⟨by decide +kernel, rfl⟩) w_f_RX11_181 rfl (fun v5 => ?_)
    refine J_if_ne (tg := 32) (show Dc Y_X11_cover 25 (.ifCond .ne 7) 3 28 from ⟨by decide +kernel, rfl⟩) (by decide) (fun h => ?_) (fun h => ?_)
    · refine J_iconst (0 : Int32) rfl (show Dc Y_X11_cover 32 (.iconst 0) 1 33 from ⟨by decide +kernel, rfl⟩) ?_
      refine J_mask [true, false, false] ?_
      exact j_X11_cover_33 N x0 v4 (0 : Int32) g h0
    · refine J_iconst (1 : Int32) rfl (show Dc Y_X11_cover 28 (.iconst 1) 1 29 from ⟨by decide +kernel, rfl⟩) ?_
      refine J_goto (tg := 33) (show Dc Y_X11_cover 29 (.goto 4) 3 32 from ⟨by decide +kernel, rfl⟩) (by decide) ?_
      refine J_mask [true, false, false] ?_
      exact j_X11_cover_33 N x0 v4 (1 : Int32) g h0
  · refine J_iconst (-1 : Int32) rfl (show Dc Y_X11_cover 8 (.iconst (-1)) 1 9 from ⟨by decide +kernel, rfl⟩) ?_
    exact J_reti (show Dc Y_X11_cover 9 (.ireturn) 1 10 from ⟨by decide +kernel, rfl⟩) rfl (h0 _ _) (by decide) (by decide)

theorem c_X11_cover {l : Launch} {D : ZD} {B0 : Nat} (N : Nat) (x0 : Nat) (x1 : Int32) (g : ZS) : ∀ r, f_X11_cover N x0 x1 g = some r → zCt l D B0 yX11_cover Y_X11_cover [.ref x0, .int x1] g (some (.int r.1)) r.2 :=
  zCt_ofF (vo := fun r => some (.int r.1)) (so := fun r => r.2) (by decide +kernel) rfl (fun h => by cases h) rfl (Nat.le_of_ble_eq_true rfl) (fun X => j_X11_cover N x0 x1 g (fun _ _ h => h))

theorem j_X12_cloths_4 {X : ZX} (N : Nat) (x0 : Nat) (x1 : Int32) (x2 : Int32)   (g : ZS) {K : ((Int32 × Int32) ⊕ Int32) → Prop} (h0 : ∀ v, K (.inr v) → xK X (some (.int v)) g) (hL4 : ∀ s, K (.inl s) → zG Y_X12_cloths X 0 0 4 [some (.ref x0), some (.int s.1), some (.int s.2)] [] g) : J Y_X12_cloths X 0 0 4 [some (.ref x0), some (.int x1), some (.int x2)] [] g (f_X12_cloths_4 N x0 x1 x2 g) K := by
  unfold f_X12_cloths_4
  refine J_iload_n rfl rfl (show Dc Y_X12_cloths 4 (.iload_n 2) 1 5 from ⟨by decide +kernel, rfl⟩) ?_
  refine J_aload_n rfl rfl (show Dc Y_X12_cloths 5 (.aload_n 0) 1 6 from ⟨by decide +kernel, rfl⟩) ?_
  refine J_getI (show Dc Y_X12_cloths 6 (.getfield 116) 3 9 from ⟨by decide +kernel, rfl⟩) w_f_RX12_116 rfl (fun v1 => ?_)
  refine J_icmp_ge (tg := 33) (show Dc Y_X12_cloths 9 (.if_icmp .ge 24) 3 12 from ⟨by decide +kernel, rfl⟩) (by decide) (fun h => ?_) (fun h => ?_)
  · refine J_map (f := Sum.inr) (fun _ h => h) ?_
    refine J_iload_n rfl rfl (show Dc Y_X12_cloths 33 (.iload_n 1) 1 34 from ⟨by decide +kernel, rfl⟩) ?_
    exact J_reti (show Dc Y_X12_cloths 34 (.ireturn) 1 35 from ⟨by decide +kernel, rfl⟩) rfl (h0 _) (by decide) (by decide)
  · refine J_iload_n rfl rfl (show Dc Y_X12_cloths 12 (.iload_n 1) 1 13 from ⟨by decide +kernel, rfl⟩) ?_
    refine J_aload_n rfl rfl (show Dc Y_X12_cloths 13 (.aload_n 0) 1 14 from ⟨by decide +kernel, rfl⟩) ?_
    refine J_getR (show Dc Y_X12_cloths 14 (.getfield 9) 3 17 from ⟨by decide +kernel, rfl⟩) w_f_RX12_9 rfl (fun v2 => ?_)
    refine J_iload_n rfl rfl (show Dc Y_X12_cloths 17 (.iload_n 2) 1 18 from ⟨by decide +kernel, rfl⟩) ?_
    refine J_iconst (1 : Int32) rfl (show Dc Y_X12_cloths 18 (.iconst 1) 1 19 from ⟨by decide +kernel, rfl⟩) ?_
    refine J_callSi (fun r => r) (fun _ => g) (show Dc Y_X12_cloths 19 (.invokestatic 179) 3 22 from ⟨by decide +kernel, rfl⟩) w_m_RX12_179 w_st_X12_of w_cw_X12_of (c_X12_of x2 (1 : Int32) g) rfl rfl (by decide) (Nat.le_of_ble_eq_true rfl) (by decide) (by decide) (fun v3 => ?_)
    refine J_iald (show Dc Y_X12_cloths 22 (.iaload) 1 23 from ⟨by decide +kernel, rfl⟩) (fun v4 => ?_)
    refine J_iload_n rfl rfl (show Dc Y_X12_cloths 23 (.iload_n 2) 1 24 from ⟨by decide +kernel, rfl⟩) ?_
    refine J_ishl (show Dc Y_X12_cloths 24 (.ishl) 1 25 from ⟨by decide +kernel, rfl⟩) ?_
    refine J_ior (show Dc Y_X12_cloths 25 (.ior) 1 26 from ⟨by decide +kernel, rfl⟩) ?_
    refine J_istore_n [some (.ref x0), some (.int (x1 ||| (v4 <<< (x2 &&& 31)))), some (.int x2)] (show Dc Y_X12_cloths 26 (.istore_n 1) 1 27 from ⟨by decide +kernel, rfl⟩) rfl (by decide) rfl rfl ?_
    refine J_iinc (1 : Int32) [some (.ref x0), some (.int (x1 ||| (v4 <<< (x2 &&& 31)))), some (.int (x2 + (1 : Int32)))] (show Dc Y_X12_cloths 27 (.iinc 2 1) 3 30 from ⟨by decide +kernel, rfl⟩) rfl rfl (by decide) rfl rfl ?_
    refine J_goto (tg := 4) (show Dc Y_X12_cloths 30 (.goto (-26)) 3 33 from ⟨by decide +kernel, rfl⟩) (by decide) ?_
    exact J_leaf (fun h => hL4 (x1 ||| (v4 <<< (x2 &&& 31)), x2 + (1 : Int32)) h)

theorem j_X12_cloths {X : ZX} (N : Nat) (x0 : Nat)   (g : ZS) {K : Int32 → Prop} (h0 : ∀ v, K v → xK X (some (.int v)) g) : J Y_X12_cloths X 0 0 0 [some (.ref x0), none, none] [] g (f_X12_cloths N x0 g) K := by
  unfold f_X12_cloths
  refine J_iconst (0 : Int32) rfl (show Dc Y_X12_cloths 0 (.iconst 0) 1 1 from ⟨by decide +kernel, rfl⟩) ?_
  refine J_istore_n [some (.ref x0), some (.int (0 : Int32)), none] (show Dc Y_X12_cloths 1 (.istore_n 1) 1 2 from ⟨by decide +kernel, rfl⟩) rfl (by decide) rfl rfl ?_
  refine J_iconst (0 : Int32) rfl (show Dc Y_X12_cloths 2 (.iconst 0) 1 3 from ⟨by decide +kernel, rfl⟩) ?_
  refine J_istore_n [some (.ref x0), some (.int (0 : Int32)), some (.int (0 : Int32))] (show Dc Y_X12_cloths 3 (.istore_n 2) 1 4 from ⟨by decide +kernel, rfl⟩) rfl (by decide) rfl rfl ?_
  exact J_loop (X := X) (K := K) (uc := fun _ => 0) (us := fun _ => 0) (lf := fun s => [some (.ref x0), some (.int s.1), some (.int s.2)]) (gf := fun s => g) (fun s => j_X12_cloths_4 (K := zKl Y_X12_cloths X 4 (fun _ => 0) (fun _ => 0) (fun s => [some (.ref x0), some (.int s.1), some (.int s.2)]) (fun s => g) K) N x0 s.1 s.2 g h0 (fun s h => h)) N ((0 : Int32), (0 : Int32))

theorem c_X12_cloths {l : Launch} {D : ZD} {B0 : Nat} (N : Nat) (x0 : Nat) (g : ZS) : ∀ r, f_X12_cloths N x0 g = some r → zCt l D B0 yX12_cloths Y_X12_cloths [.ref x0] g (some (.int r)) g :=
  zCt_ofF (vo := fun r => some (.int r)) (so := fun _ => g) (by decide +kernel) rfl (fun h => by cases h) rfl (Nat.le_of_ble_eq_true rfl) (fun X => j_X12_cloths N x0 g (fun _ h => h))

theorem j_X12_cloth {X : ZX} (N : Nat) (x0 : Nat) (x1 : Int32)   (g : ZS) {K : (Int32 × ZS) → Prop} (h0 : ∀ v g, K (v, g) → xK X (some (.int v)) g) : J Y_X12_cloth X 0 0 0 [some (.ref x0), some (.int x1)] [] g (f_X12_cloth N x0 x1 g) K := by
  unfold f_X12_cloth
  refine J_aload_n rfl rfl (show Dc Y_X12_cloth 0 (.aload_n 0) 1 1 from ⟨by decide +kernel, rfl⟩) ?_
  refine J_iconst (0 : Int32) rfl (show Dc Y_X12_cloth 1 (.iconst 0) 1 2 from ⟨by decide +kernel, rfl⟩) ?_
  refine J_putI (show Dc Y_X12_cloth 2 (.putfield 109) 3 5 from ⟨by decide +kernel, rfl⟩) w_f_RX12_109 rfl rfl (fun g1 => ?_) (fun h => by cases h)
  refine J_aload_n rfl rfl (show Dc Y_X12_cloth 5 (.aload_n 0) 1 6 from ⟨by decide +kernel, rfl⟩) ?_
  refine J_iload_n rfl rfl (show Dc Y_X12_cloth 6 (.iload_n 1) 1 7 from ⟨by decide +kernel, rfl⟩) ?_
  refine J_callVi (fun r => r) (fun _ => g1) (show Dc Y_X12_cloth 7 (.invokevirtual 234) 3 10 from ⟨by decide +kernel, rfl⟩) w_m_RX12_234 w_in_X12_isParrot rfl w_se_X12_isParrot w_cw_X12_isParrot (c_X12_isParrot x0 x1 g1) rfl rfl (by decide) (Nat.le_of_ble_eq_true rfl) (by decide) (by decide) (fun v2 => ?_)
  refine J_if_ne (tg := 15) (show Dc Y_X12_cloth 10 (.ifCond .ne 5) 3 13 from ⟨by decide +kernel, rfl⟩) (by decide) (fun h => ?_) (fun h => ?_)
  · refine J_aload_n rfl rfl (show Dc Y_X12_cloth 15 (.aload_n 0) 1 16 from ⟨by decide +kernel, rfl⟩) ?_
    refine J_aload_n rfl rfl (show Dc Y_X12_cloth 16 (.aload_n 0) 1 17 from ⟨by decide +kernel, rfl⟩) ?_
    refine J_getR (show Dc Y_X12_cloth 17 (.getfield 9) 3 20 from ⟨by decide +kernel, rfl⟩) w_f_RX12_9 rfl (fun v3 => ?_)
    refine J_callVv (fun r => r) (show Dc Y_X12_cloth 20 (.invokevirtual 261) 3 23 from ⟨by decide +kernel, rfl⟩) w_m_RX12_261 w_in_X12_remember rfl w_se_X12_remember w_cw_X12_remember (c_X12_remember N x0 v3 g1) rfl rfl (by decide) (Nat.le_of_ble_eq_true rfl) (by decide) (by decide) (fun g4 => ?_)
    refine J_aload_n rfl rfl (show Dc Y_X12_cloth 23 (.aload_n 0) 1 24 from ⟨by decide +kernel, rfl⟩) ?_
    refine J_getR (show Dc Y_X12_cloth 24 (.getfield 9) 3 27 from ⟨by decide +kernel, rfl⟩) w_f_RX12_9 rfl (fun v5 => ?_)
    refine J_iload_n rfl rfl (show Dc Y_X12_cloth 27 (.iload_n 1) 1 28 from ⟨by decide +kernel, rfl⟩) ?_
    refine J_iconst (1 : Int32) rfl (show Dc Y_X12_cloth 28 (.iconst 1) 1 29 from ⟨by decide +kernel, rfl⟩) ?_
    refine J_callSi (fun r => r) (fun _ => g4) (show Dc Y_X12_cloth 29 (.invokestatic 179) 3 32 from ⟨by decide +kernel, rfl⟩) w_m_RX12_179 w_st_X12_of w_cw_X12_of (c_X12_of x1 (1 : Int32) g4) rfl rfl (by decide) (Nat.le_of_ble_eq_true rfl) (by decide) (by decide) (fun v6 => ?_)
    refine J_iconst (1 : Int32) rfl (show Dc Y_X12_cloth 32 (.iconst 1) 1 33 from ⟨by decide +kernel, rfl⟩) ?_
    refine J_aload_n rfl rfl (show Dc Y_X12_cloth 33 (.aload_n 0) 1 34 from ⟨by decide +kernel, rfl⟩) ?_
    refine J_getR (show Dc Y_X12_cloth 34 (.getfield 9) 3 37 from ⟨by decide +kernel, rfl⟩) w_f_RX12_9 rfl (fun v7 => ?_)
    refine J_iload_n rfl rfl (show Dc Y_X12_cloth 37 (.iload_n 1) 1 38 from ⟨by decide +kernel, rfl⟩) ?_
    refine J_iconst (1 : Int32) rfl (show Dc Y_X12_cloth 38 (.iconst 1) 1 39 from ⟨by decide +kernel, rfl⟩) ?_
    refine J_callSi (fun r => r) (fun _ => g4) (show Dc Y_X12_cloth 39 (.invokestatic 179) 3 42 from ⟨by decide +kernel, rfl⟩) w_m_RX12_179 w_st_X12_of w_cw_X12_of (c_X12_of x1 (1 : Int32) g4) rfl rfl (by decide) (Nat.le_of_ble_eq_true rfl) (by decide) (by decide) (fun v8 => ?_)
    refine J_iald (show Dc Y_X12_cloth 42 (.iaload) 1 43 from ⟨by decide +kernel, rfl⟩) (fun v9 => ?_)
    refine J_isub (show Dc Y_X12_cloth 43 (.isub) 1 44 from ⟨by decide +kernel, rfl⟩) ?_
    refine J_iast (show Dc Y_X12_cloth 44 (.iastore) 1 45 from ⟨by decide +kernel, rfl⟩) (fun g10 => ?_)
    refine J_aload_n rfl rfl (show Dc Y_X12_cloth 45 (.aload_n 0) 1 46 from ⟨by decide +kernel, rfl⟩) ?_
    refine J_callVi (fun r => r) (fun _ => g10) (show Dc Y_X12_cloth 46 (.invokevirtual 281) 3 49 from ⟨by decide +kernel, rfl⟩) w_m_RX12_281 w_in_X12_cloths rfl w_se_X12_cloths w_cw_X12_cloths (c_X12_cloths N x0 g10) rfl rfl (by decide) (Nat.le_of_ble_eq_true rfl) (by decide) (by decide) (fun v11 => ?_)
    refine J_callSi (fun r => r) (fun _ => g10) (show Dc Y_X12_cloth 49 (.invokestatic 269) 3 52 from ⟨by decide +kernel, rfl⟩) w_m_RX12_269 w_st_J6_bitCount_0f7a4 w_cw_J6_bitCount_0f7a4 (c_J6_bitCount_0f7a4 v11 g10) rfl rfl (by decide) (Nat.le_of_ble_eq_true rfl) (by decide) (by decide) (fun v12 => ?_)
    exact J_reti (show Dc Y_X12_cloth 52 (.ireturn) 1 53 from ⟨by decide +kernel, rfl⟩) rfl (h0 _ _) (by decide) (by decide)
  · refine J_iconst (-1 : Int32) rfl (show Dc Y_X12_cloth 13 (.iconst (-1)) 1 14 from ⟨by decide +kernel, rfl⟩) ?_
    exact J_reti (show Dc Y_X12_cloth 14 (.ireturn) 1 15 from ⟨by decide +kernel, rfl⟩) rfl (h0 _ _) (by decide) (by decide)

theorem c_X12_cloth {l : Launch} {D : ZD} {B0 : Nat} (N : Nat) (x0 : Nat) (x1 : Int32) (g : ZS) : ∀ r, f_X12_cloth N x0 x1 g = some r → zCt l D B0 yX12_cloth Y_X12_cloth [.ref x0, .int x1] g (some (.int r.1)) r.2 :=
  zCt_ofF (vo := fun r => some (.int r.1)) (so := fun r => r.2) (by decide +kernel) rfl (fun h => by cases h) rfl (Nat.le_of_ble_eq_true rfl) (fun X => j_X12_cloth N x0 x1 g (fun _ _ h => h))

theorem j_X11_feed_15 {X : ZX}    (g : ZS) {K : (Int32 × ZS) → Prop} (h0 : ∀ v g, K (v, g) → xK X (some (.int v)) g) : J Y_X11_feed X 0 0 15 [none, none, none, none] [] g (f_X11_feed_15 g) K := by
  unfold f_X11_feed_15
  refine J_iconst (-1 : Int32) rfl (show Dc Y_X11_feed 15 (.iconst (-1)) 1 16 from ⟨by decide +kernel, rfl⟩) ?_
  exact J_reti (show Dc Y_X11_feed 16 (.ireturn) 1 17 from ⟨by decide +kernel, rfl⟩) rfl (h0 _ _) (by decide) (by decide)

theorem j_X11_feed {X : ZX} (x0 : Nat) (x1 : Int32) (x2 : Int32)   (g : ZS) {K : (Int32 × ZS) → Prop} (h0 : ∀ v g, K (v, g) → xK X (some (.int v)) g) : J Y_X11_feed X 0 0 0 [some (.ref x0), some (.int x1), some (.int x2), none] [] g (f_X11_feed x0 x1 x2 g) K := by
  unfold f_X11_feed
  refine J_aload_n rfl rfl (show Dc Y_X11_feed 0 (.aload_n 0) 1 1 from ⟨by decide +kernel, rfl⟩) ?_
  refine J_iload_n rfl rfl (show Dc Y_X11_feed 1 (.iload_n 1) 1 2 from ⟨by decide +kernel, rfl⟩) ?_
  refine J_callVi (fun r => r) (fun _ => g) (show Dc Y_X11_feed 2 (.invokevirtual 241) 3 5 from ⟨by decide +kernel, rfl⟩) w_m_RX11_241 w_in_X6_isIn rfl w_se_X6_isIn w_cw_X6_isIn (c_X6_isIn x0 x1 g) rfl rfl (by decide) (Nat.le_of_ble_eq_true rfl) (by decide) (by decide) (fun v1 => ?_)
  refine J_if_eq (tg := 15) (show Dc Y_X11_feed 5 (.ifCond .eq 10) 3 8 from ⟨by decide +kernel, rfl⟩) (by decide) (fun h => ?_) (fun h => ?_)
  · refine J_mask [false, false, false, false] ?_
    exact j_X11_feed_15 g h0
  · refine J_iload_n rfl rfl (show Dc Y_X11_feed 8 (.iload_n 2) 1 9 from ⟨by decide +kernel, rfl⟩) ?_
    refine J_callSi (fun r => r) (fun _ => g) (show Dc Y_X11_feed 9 (.invokestatic 196) 3 12 from ⟨by decide +kernel, rfl⟩) w_m_RX11_196 w_st_X11_isWord w_cw_X11_isWord (c_X11_isWord x2 g) rfl rfl (by decide) (Nat.le_of_ble_eq_true rfl) (by decide) (by decide) (fun v2 => ?_)
    refine J_if_ne (tg := 17) (show Dc Y_X11_feed 12 (.ifCond .ne 5) 3 15 from ⟨by decide +kernel, rfl⟩) (by decide) (fun h => ?_) (fun h => ?_)
    · refine J_aload_n rfl rfl (show Dc Y_X11_feed 17 (.aload_n 0) 1 18 from ⟨by decide +kernel, rfl⟩) ?_
      refine J_getR (show Dc Y_X11_feed 18 (.getfield 171) 3 21 from ⟨by decide +kernel, rfl⟩) w_f_RX11_171 rfl (fun v3 => ?_)
      refine J_iload_n rfl rfl (show Dc Y_X11_feed 21 (.iload_n 1) 1 22 from ⟨by decide +kernel, rfl⟩) ?_
      refine J_aald (kd := 25) (by decide) (by decide) (show Dc Y_X11_feed 22 (.aaload) 1 23 from ⟨by decide +kernel, rfl⟩) (fun v4 => ?_)
      refine J_astore_n [some (.ref x0), some (.int x1), some (.int x2), some (.ref v4)] (show Dc Y_X11_feed 23 (.astore_n 3) 1 24 from ⟨by decide +kernel, rfl⟩) rfl (by decide) rfl rfl ?_
      refine J_aload_n rfl rfl (show Dc Y_X11_feed 24 (.aload_n 3) 1 25 from ⟨by decide +kernel, rfl⟩) ?_
      refine J_getR (show Dc Y_X11_feed 25 (.getfield 201) 3 28 from ⟨by decide +kernel, rfl⟩) w_f_RX11_201 rfl (fun v5 => ?_)
      refine J_iload_n rfl rfl (show Dc Y_X11_feed 28 (.iload_n 2) 1 29 from ⟨by decide +kernel, rfl⟩) ?_
      refine J_iald (show Dc Y_X11_feed 29 (.iaload) 1 30 from ⟨by decide +kernel, rfl⟩) (fun v6 => ?_)
      refine J_if_ne (tg := 36) (show Dc Y_X11_feed 30 (.ifCond .ne 6) 3 33 from ⟨by decide +kernel, rfl⟩) (by decide) (fun h => ?_) (fun h => ?_)
      · refine J_aload_n rfl rfl (show Dc Y_X11_feed 36 (.aload_n 3) 1 37 from ⟨by decide +kernel, rfl⟩) ?_
        refine J_getR (show Dc Y_X11_feed 37 (.getfield 210) 3 40 from ⟨by decide +kernel, rfl⟩) w_f_RX11_210 rfl (fun v7 => ?_)
        refine J_iload_n rfl rfl (show Dc Y_X11_feed 40 (.iload_n 2) 1 41 from ⟨by decide +kernel, rfl⟩) ?_
        refine J_bipush (99 : Int32) rfl (show Dc Y_X11_feed 41 (.bipush 99) 2 43 from ⟨by decide +kernel, rfl⟩) ?_
        refine J_aload_n rfl rfl (show Dc Y_X11_feed 43 (.aload_n 3) 1 44 from ⟨by decide +kernel, rfl⟩) ?_
        refine J_getR (show Dc Y_X11_feed 44 (.getfield 210) 3 47 from ⟨by decide +kernel, rfl⟩) w_f_RX11_210 rfl (fun v8 => ?_)
        refine J_iload_n rfl rfl (show Dc Y_X11_feed 47 (.iload_n 2) 1 48 from ⟨by decide +kernel, rfl⟩) ?_
        refine J_iald (show Dc Y_X11_feed 48 (.iaload) 1 49 from ⟨by decide +kernel, rfl⟩) (fun v9 => ?_)
        refine J_iconst (1 : Int32) rfl (show Dc Y_X11_feed 49 (.iconst 1) 1 50 from ⟨by decide +kernel, rfl⟩) ?_
        refine J_iadd (show Dc Y_X11_feed 50 (.iadd) 1 51 from ⟨by decide +kernel, rfl⟩) ?_
        refine J_callSi (fun r => r) (fun _ => g) (show Dc Y_X11_feed 51 (.invokestatic 233) 3 54 from ⟨by decide +kernel, rfl⟩) w_m_RX11_233 w_st_J9_min_7cf53 w_cw_J9_min_7cf53 (c_J9_min_7cf53 (99 : Int32) (v9 + (1 : Int32)) g) rfl rfl (by decide) (Nat.le_of_ble_eq_true rfl) (by decide) (by decide) (fun v10 => ?_)
        refine J_iast (show Dc Y_X11_feed 54 (.iastore) 1 55 from ⟨by decide +kernel, rfl⟩) (fun g11 => ?_)
        refine J_aload_n rfl rfl (show Dc Y_X11_feed 55 (.aload_n 3) 1 56 from ⟨by decide +kernel, rfl⟩) ?_
        refine J_getR (show Dc Y_X11_feed 56 (.getfield 210) 3 59 from ⟨by decide +kernel, rfl⟩) w_f_RX11_210 rfl (fun v12 => ?_)
        refine J_iload_n rfl rfl (show Dc Y_X11_feed 59 (.iload_n 2) 1 60 from ⟨by decide +kernel, rfl⟩) ?_
        refine J_iald (show Dc Y_X11_feed 60 (.iaload) 1 61 from ⟨by decide +kernel, rfl⟩) (fun v13 => ?_)
        exact J_reti (show Dc Y_X11_feed 61 (.ireturn) 1 62 from ⟨by decide +kernel, rfl⟩) rfl (h0 _ _) (by decide) (by decide)
      · refine J_bipush (-2 : Int32) rfl (show Dc Y_X11_feed 33 (.bipush (-2)) 2 35 from ⟨by decide +kernel, rfl⟩) ?_
        exact J_reti (show Dc Y_X11_feed 35 (.ireturn) 1 36 from ⟨by decide +kernel, rfl⟩) rfl (h0 _ _) (by decide) (by decide)
    · refine J_mask [false, false, false, false] ?_
      exact j_X11_feed_15 g h0

theorem c_X11_feed {l : Launch} {D : ZD} {B0 : Nat} (x0 : Nat) (x1 : Int32) (x2 : Int32) (g : ZS) : ∀ r, f_X11_feed x0 x1 x2 g = some r → zCt l D B0 yX11_feed Y_X11_feed [.ref x0, .int x1, .int x2] g (some (.int r.1)) r.2 :=
  zCt_ofF (vo := fun r => some (.int r.1)) (so := fun r => r.2) (by decide +kernel) rfl (fun h => by cases h) rfl (Nat.le_of_ble_eq_true rfl) (fun X => j_X11_feed x0 x1 x2 g (fun _ _ h => h))
