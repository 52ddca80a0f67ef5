def f_X12_power_5 (N : Nat) (x0 : Int64) (x2 : Int32) (x3 : Int64) (x5 : Int32)  : Option ((Int64 × Int32) ⊕ Int64) :=
  if x2 ≤ x5 then
    (
      some x3).map Sum.inr
  else
    some (.inl (x3 * x0, x5 + (1 : Int32)))

def f_X12_power (N : Nat) (x0 : Int64) (x2 : Int32)  : Option Int64 :=
  zloop (fun s => f_X12_power_5 N x0 x2 s.1 s.2) N ((1 : Int64), (0 : Int32))

def f_X11_canBeNoted_36 (x1 : Int32)  : Option Int32 :=
  (f_X11_isWord x1).bind fun v1 =>
  if vp_nar .boolean v1 = v1 then some v1 else none

def f_X11_canBeNoted_62  (s0 : Int32) : Option Int32 :=
  if vp_nar .boolean s0 = s0 then some s0 else none

def f_X11_canBeNoted_61   : Option Int32 :=
  f_X11_canBeNoted_62 (0 : Int32)

def f_X11_canBeNoted (x0 : Int32) (x1 : Int32)  : Option Int32 :=
  zcase x0 [
    ((0 : Int32),
      f_X11_canBeNoted_36 x1),
    ((1 : Int32),
      f_X11_canBeNoted_36 x1),
    ((2 : Int32),
      (f_X11_isHouse x1).bind fun v1 =>
      if vp_nar .boolean v1 = v1 then some v1 else none),
    ((3 : Int32),
      if x1 < (1 : Int32) then
        f_X11_canBeNoted_61
      else
        if (8 : Int32) < x1 then
          f_X11_canBeNoted_61
        else
          f_X11_canBeNoted_62 (1 : Int32)),
    ((4 : Int32),
      f_X11_canBeNoted_36 x1)] (
    some (0 : Int32))

def f_X3_add_39   (g : ZS) : Option ZS :=
  some g

def f_X3_add (x0 : Nat) (x1 : Int32) (x2 : Int32)  (g : ZS) : Option ZS :=
  (zrdI g x0 3 2).bind fun v1 =>
  if (12 : Int32) ≤ v1 then
    f_X3_add_39 g
  else
    (zrdR g x0 3 0).bind fun v2 =>
    (zrdI g x0 3 2).bind fun v3 =>
    (zast 20 g v2 v3 x1).bind fun g4 =>
    (zrdR g4 x0 3 1).bind fun v5 =>
    (zrdI g4 x0 3 2).bind fun v6 =>
    (zast 20 g4 v5 v6 x2).bind fun g7 =>
    (zrdI g7 x0 3 2).bind fun v8 =>
    (zwrI g7 x0 3 2 (v8 + (1 : Int32))).bind fun g9 =>
    f_X3_add_39 g9

def f_X11_note_20   (g : ZS) : Option (Int32 × ZS) :=
  some ((-1 : Int32), g)

def f_X11_note (x0 : Nat) (x1 : Int32) (x2 : Int32)  (g : ZS) : Option (Int32 × ZS) :=
  (zrdR g x0 11 15).bind fun v1 =>
  (zrdI g v1 3 2).bind fun v2 =>
  if (12 : Int32) ≤ v2 then
    f_X11_note_20 g
  else
    (f_X11_canBeNoted x1 x2).bind fun v3 =>
    if v3 = 0 then
      f_X11_note_20 g
    else
      (zrdR g x0 11 15).bind fun v4 =>
      zvs g v4 3 <| (f_X3_add v4 x1 x2 g).bind fun g5 =>
      (zrdR g5 x0 11 15).bind fun v6 =>
      (zrdI g5 v6 3 2).bind fun v7 =>
      some (v7, g5)

def f_X12_note_61   (g : ZS) : Option (Int32 × ZS) :=
  some ((-1 : Int32), g)

def f_X12_note_46 (x0 : Nat) (x1 : Int32) (x2 : Int32) (s0 : Int32) (s1 : Int32) (s2 : Int32) (g : ZS) : Option (Int32 × ZS) :=
  (f_X12_in s0 s1 s2).bind fun v1 =>
  if v1 = 0 then
    f_X12_note_61 g
  else
    (zrdI g x0 12 41).bind fun v2 =>
    if v2 = (12 : Int32) then
      f_X12_note_61 g
    else
      (zrdR g x0 12 39).bind fun v3 =>
      (zrdI g x0 12 41).bind fun v4 =>
      (zast 20 g v3 v4 x1).bind fun g5 =>
      (zrdR g5 x0 12 40).bind fun v6 =>
      (zrdI g5 x0 12 41).bind fun v7 =>
      (zast 20 g5 v6 v7 x2).bind fun g8 =>
      (zrdI g8 x0 12 41).bind fun v9 =>
      (zwrI g8 x0 12 41 (v9 + (1 : Int32))).bind fun g10 =>
      (zrdI g10 x0 12 41).bind fun v11 =>
      some (v11, g10)

def f_X12_note_25 (x0 : Nat) (x1 : Int32) (x2 : Int32) (s0 : Int32) (s1 : Int32) (g : ZS) : Option (Int32 × ZS) :=
  if x1 = (2 : Int32) then
    f_X12_note_46 x0 x1 x2 s0 s1 (3 : Int32) g
  else
    if x1 = (3 : Int32) then
      f_X12_note_46 x0 x1 x2 s0 s1 (8 : Int32) g
    else
      f_X12_note_46 x0 x1 x2 s0 s1 (7 : Int32) g

def f_X12_note (x0 : Nat) (x1 : Int32) (x2 : Int32)  (g : ZS) : Option (Int32 × ZS) :=
  (zwrI g x0 12 10 (0 : Int32)).bind fun g1 =>
  (f_X12_in x1 (0 : Int32) (4 : Int32)).bind fun v2 =>
  if v2 = 0 then
    f_X12_note_61 g1
  else
    if x1 = (3 : Int32) then
      f_X12_note_25 x0 x1 x2 x2 (1 : Int32) g1
    else
      f_X12_note_25 x0 x1 x2 x2 (0 : Int32) g1

def f_X11_strike (x0 : Nat)  (g : ZS) : Option (Int32 × ZS) :=
  (zrdR g x0 11 15).bind fun v1 =>
  (zrdI g v1 3 2).bind fun v2 =>
  (zrdR g x0 11 15).bind fun v3 =>
  (zwrI g v3 3 2 (0 : Int32)).bind fun g4 =>
  some (v2, g4)

def f_X12_strike (x0 : Nat)  (g : ZS) : Option (Int32 × ZS) :=
  (zwrI g x0 12 10 (0 : Int32)).bind fun g1 =>
  (zrdI g1 x0 12 41).bind fun v2 =>
  (zwrI g1 x0 12 41 (0 : Int32)).bind fun g3 =>
  some (v2, g3)

def f_X3_suits_46 (N : Nat)  (s0 : Int32) (g : ZS) : Option Int32 :=
  if vp_nar .boolean s0 = s0 then some s0 else none

def f_X3_suits_61 (N : Nat)  (s0 : Int32) (g : ZS) : Option Int32 :=
  if vp_nar .boolean s0 = s0 then some s0 else none

def f_X3_suits_75 (N : Nat)  (s0 : Int32) (g : ZS) : Option Int32 :=
  if vp_nar .boolean s0 = s0 then some s0 else none

def f_X3_suits_89 (N : Nat)  (s0 : Int32) (g : ZS) : Option Int32 :=
  if vp_nar .boolean s0 = s0 then some s0 else none

def f_X3_suits_104 (N : Nat)  (s0 : Int32) (g : ZS) : Option Int32 :=
  if vp_nar .boolean s0 = s0 then some s0 else none

def f_X3_suits (N : Nat) (x0 : Int32) (x1 : Int32) (x2 : Nat) (x3 : Nat)  (g : ZS) : Option Int32 :=
  zcase x0 [
    ((0 : Int32),
      zvs g x3 10 <| (f_X10_placeOf N x3 x1 g).bind fun v1 =>
      if v1 = (-1 : Int32) then
        f_X3_suits_46 N (0 : Int32) g
      else
        f_X3_suits_46 N (1 : Int32) g),
    ((1 : Int32),
      zvs g x3 10 <| (f_X10_placeOf N x3 x1 g).bind fun v2 =>
      if v2 = (-1 : Int32) then
        f_X3_suits_61 N (1 : Int32) g
      else
        f_X3_suits_61 N (0 : Int32) g),
    ((2 : Int32),
      (zrdI g x2 0 4).bind fun v3 =>
      if v3 = x1 then
        f_X3_suits_75 N (1 : Int32) g
      else
        f_X3_suits_75 N (0 : Int32) g),
    ((3 : Int32),
      (zrdI g x2 0 5).bind fun v4 =>
      if v4 < x1 then
        f_X3_suits_89 N (0 : Int32) g
      else
        f_X3_suits_89 N (1 : Int32) g)] (
    zvs g x3 10 <| (f_X10_at x3 (0 : Int32) g).bind fun v5 =>
    if v5 = x1 then
      f_X3_suits_104 N (1 : Int32) g
    else
      f_X3_suits_104 N (0 : Int32) g)

def f_X3_suit_2 (N : Nat) (x0 : Nat) (x1 : Nat) (x2 : Nat) (x3 : Int32)  (g : ZS) : Option ((Int32) ⊕ Int32) :=
  (zrdI g x0 3 2).bind fun v1 =>
  if v1 ≤ x3 then
    (
      some (1 : Int32)).map Sum.inr
  else
    (zrdR g x0 3 0).bind fun v2 =>
    (zald 20 g v2 x3).bind fun v3 =>
    (zrdR g x0 3 1).bind fun v4 =>
    (zald 20 g v4 x3).bind fun v5 =>
    (f_X3_suits N v3 v5 x1 x2 g).bind fun v6 =>
    if v6 = 0 then
      (
        some (0 : Int32)).map Sum.inr
    else
      some (.inl (x3 + (1 : Int32)))

def f_X3_suit (N : Nat) (x0 : Nat) (x1 : Nat) (x2 : Nat)  (g : ZS) : Option Int32 :=
  zloop (fun s => f_X3_suit_2 N x0 x1 x2 s g) N (0 : Int32)

def f_X11_fittingParrots_68 (N : Nat) (x0 : Nat) (x1 : Int32) (x2 : Int32)  (g : ZS) : Option ((Int32 × Int32 × ZS) ⊕ (Int32 × ZS)) :=
  some (.inl (x1, x2 + (1 : Int32), g))

def f_X11_fittingParrots_4 (N : Nat) (x0 : Nat) (x1 : Int32) (x2 : Int32)  (g : ZS) : Option ((Int32 × Int32 × ZS) ⊕ (Int32 × ZS)) :=
  (zrdR g x0 11 6).bind fun v1 =>
  (zrdI g v1 6 1).bind fun v2 =>
  if v2 ≤ x2 then
    (
      some (x1, g)).map Sum.inr
  else
    (zrdR g x0 11 12).bind fun v3 =>
    (zrdR g x0 11 6).bind fun v4 =>
    (zrdR g v4 6 0).bind fun v5 =>
    (zaald 25 g v5 x2).bind fun v6 =>
    (zrdR g x0 11 4).bind fun v7 =>
    (zrdR g x0 11 3).bind fun v8 =>
    zvs g v3 10 <| (f_X10_follow N v3 v6 v7 v8 g).bind fun g9 =>
    (zrdR g9 x0 11 15).bind fun v10 =>
    (zrdR g9 x0 11 6).bind fun v11 =>
    (zrdR g9 v11 6 0).bind fun v12 =>
    (zaald 25 g9 v12 x2).bind fun v13 =>
    (zrdR g9 x0 11 12).bind fun v14 =>
    zvs g9 v10 3 <| (f_X3_suit N v10 v13 v14 g9).bind fun v15 =>
    if v15 = 0 then
      f_X11_fittingParrots_68 N x0 x1 x2 g9
    else
      f_X11_fittingParrots_68 N x0 (x1 ||| ((1 : Int32) <<< (x2 &&& 31))) x2 g9

def f_X11_fittingParrots (N : Nat) (x0 : Nat)  (g : ZS) : Option (Int32 × ZS) :=
  zloop (fun s => f_X11_fittingParrots_4 N x0 s.1 s.2.1 s.2.2) N ((0 : Int32), (0 : Int32), g)

def f_X11_fits (N : Nat) (x0 : Nat)  (g : ZS) : Option (Int32 × ZS) :=
  zvs g x0 11 <| (f_X11_fittingParrots N x0 g).bind fun r1 =>
  (zrdR r1.2 x0 11 1).bind fun v2 =>
  (f_J6_bitCount_0f7a4 r1.1).bind fun v3 =>
  zvs r1.2 v2 9 <| (f_X9_only v2 v3.toInt64 r1.2).bind fun g4 =>
  some (r1.1, g4)

def f_X11_sayersOf_4 (N : Nat) (x0 : Nat) (x1 : Int32) (x2 : Int32) (x3 : Int32)  (g : ZS) : Option ((Int32 × Int32) ⊕ Int32) :=
  (zrdR g x0 11 6).bind fun v1 =>
  (zrdI g v1 6 1).bind fun v2 =>
  if v2 ≤ x3 then
    (
      some x2).map Sum.inr
  else
    (zrdR g x0 11 16).bind fun v3 =>
    (zald 20 g v3 x3).bind fun v4 =>
    some (.inl (x2 ||| (((v4 >>> (x1 &&& 31)) &&& (1 : Int32)) <<< (x3 &&& 31)), x3 + (1 : Int32)))

def f_X11_sayersOf (N : Nat) (x0 : Nat) (x1 : Int32)  (g : ZS) : Option Int32 :=
  zloop (fun s => f_X11_sayersOf_4 N x0 x1 s.1 s.2 g) N ((0 : Int32), (0 : Int32))

def f_X11_ask_77 (N : Nat) (x0 : Nat) (x1 : Int32) (x2 : Int32) (x3 : Int32) (x4 : Int32) (x5 : Int32)  (g : ZS) : Option ((Int32 × Int32 × Int32) ⊕ (Int32 × ZS)) :=
  some (.inl (x3, x4, x5 + (1 : Int32)))

def f_X11_ask_32 (N : Nat) (x0 : Nat) (x1 : Int32) (x2 : Int32) (x3 : Int32) (x4 : Int32) (x5 : Int32)  (g : ZS) : Option ((Int32 × Int32 × Int32) ⊕ (Int32 × ZS)) :=
  if (8 : Int32) ≤ x5 then
    (
      (zrdR g x0 11 1).bind fun v1 =>
      zvs g v1 9 <| (f_X9_only v1 x4.toInt64 g).bind fun g2 =>
      some (x3, g2)).map Sum.inr
  else
    zvs g x0 11 <| (f_X11_sayersOf N x0 x5 g).bind fun v3 =>
    (f_J6_bitCount_0f7a4 (x1 &&& v3)).bind fun v4 =>
    (f_J9_max_7cf53 v4 (x2 - v4)).bind fun v5 =>
    if x4 ≤ v5 then
      f_X11_ask_77 N x0 x1 x2 x3 x4 x5 g
    else
      f_X11_ask_77 N x0 x1 x2 x5 v5 x5 g

def f_X11_ask (N : Nat) (x0 : Nat)  (g : ZS) : Option (Int32 × ZS) :=
  zvs g x0 11 <| (f_X11_fittingParrots N x0 g).bind fun r1 =>
  if r1.1 = 0 then
    some ((-2 : Int32), r1.2)
  else
    zvs r1.2 x0 11 <| (f_X11_gatherSets N x0 (8 : Int32) r1.2).bind fun g2 =>
    (f_J6_bitCount_0f7a4 r1.1).bind fun v3 =>
    zloop (fun s => f_X11_ask_32 N x0 r1.1 v3 s.1 s.2.1 s.2.2 g2) N ((-1 : Int32), (7 : Int32), (0 : Int32))

def f_X11_share_19 (x0 : Int32) (x2 : Int32) (s0 : Int32) : Option Int32 :=
  some (s0 - (x2 * x0))

def f_X11_share (x0 : Int32) (x1 : Int32) (x2 : Int32)  : Option Int32 :=
  if (x0 + x1) ≤ 0 then
    f_X11_share_19 x0 x2 (10 : Int32)
  else
    if x0 + x1 = 0 then none else
    f_X11_share_19 x0 x2 (((20 : Int32) * x0) / (x0 + x1))

def f_X11_isBest_10 (N : Nat) (x1 : Int32) (x2 : Int32) (x3 : Int32) (x4 : Int32)  : Option ((Int32) ⊕ Int32) :=
  if (10 : Int32) ≤ x4 then
    (
      some (1 : Int32)).map Sum.inr
  else
    (f_X11_share x4 x1 x2).bind fun v1 =>
    if v1 ≤ x3 then
      some (.inl (x4 + (1 : Int32)))
    else
      (
        some (0 : Int32)).map Sum.inr

def f_X11_isBest (N : Nat) (x0 : Int32) (x1 : Int32) (x2 : Int32)  : Option Int32 :=
  (f_X11_share x0 x1 x2).bind fun v1 =>
  zloop (fun s => f_X11_isBest_10 N x1 x2 v1 s) N (0 : Int32)

def f_X11_rests_10 (N : Nat)   (g : ZS) : Option (Int32 × ZS) :=
  some ((-1 : Int32), g)

def f_X11_rests_79 (N : Nat) (x0 : Nat) (x1 : Int32) (x2 : Int32) (x3 : Int32) (x4 : Int32)  (g : ZS) : Option ((Int32 × Int32 × ZS) ⊕ ((Int32 × Int32 × ZS) ⊕ (Int32 × ZS))) :=
  some (.inl (x2, x4 + (1 : Int32), g))

def f_X11_rests_76 (N : Nat) (x0 : Nat) (x1 : Int32) (x2 : Int32) (x3 : Int32) (x4 : Int32)  (g : ZS) : Option ((Int32 × Int32 × ZS) ⊕ ((Int32 × Int32 × ZS) ⊕ (Int32 × ZS))) :=
  f_X11_rests_79 N x0 x1 (x2 + (1 : Int32)) x3 x4 g

def f_X11_rests_33 (N : Nat) (x0 : Nat) (x1 : Int32) (x2 : Int32) (x3 : Int32) (x4 : Int32)  (g : ZS) : Option ((Int32 × Int32 × ZS) ⊕ ((Int32 × Int32 × ZS) ⊕ (Int32 × ZS))) :=
  if (10 : Int32) ≤ x4 then
    (
      some (.inl (x2, x3 + (1 : Int32), g))).map Sum.inr
  else
    (f_X11_isBest N x3 x4 x1).bind fun v1 =>
    if v1 = 0 then
      f_X11_rests_79 N x0 x1 x2 x3 x4 g
    else
      (f_X11_isBest N x4 x3 x1).bind fun v2 =>
      if v2 = 0 then
        f_X11_rests_79 N x0 x1 x2 x3 x4 g
      else
        if x2 = 0 then
          (zrdR g x0 11 1).bind fun v3 =>
          zvs g v3 9 <| (f_X9_pair v3 x3.toInt64 x4.toInt64 g).bind fun g4 =>
          f_X11_rests_76 N x0 x1 x2 x3 x4 g4
        else
          f_X11_rests_76 N x0 x1 x2 x3 x4 g

def f_X11_rests_24 (N : Nat) (x0 : Nat) (x1 : Int32) (x2 : Int32) (x3 : Int32)  (g : ZS) : Option ((Int32 × Int32 × ZS) ⊕ (Int32 × ZS)) :=
  if (10 : Int32) ≤ x3 then
    (
      some (x2, g)).map Sum.inr
  else
    zloop (fun s => f_X11_rests_33 N x0 x1 s.1 x3 s.2.1 s.2.2) N (x2, (0 : Int32), g)

def f_X11_rests (N : Nat) (x0 : Nat) (x1 : Int32)  (g : ZS) : Option (Int32 × ZS) :=
  if x1 < 0 then
    f_X11_rests_10 N g
  else
    if x1 ≤ (9 : Int32) then
      (zrdR g x0 11 1).bind fun v1 =>
      (zwrI g v1 9 1 (0 : Int32)).bind fun g2 =>
      zloop (fun s => f_X11_rests_24 N x0 x1 s.1 s.2.1 s.2.2) N ((0 : Int32), (0 : Int32), g2)
    else
      f_X11_rests_10 N g

def f_X12_gets_19 (x0 : Int32) (x2 : Int32) (s0 : Int32) : Option Int32 :=
  some (s0 - (x2 * x0))

def f_X12_gets (x0 : Int32) (x1 : Int32) (x2 : Int32)  : Option Int32 :=
  if (x0 + x1) = 0 then
    f_X12_gets_19 x0 x2 (10 : Int32)
  else
    if x0 + x1 = 0 then none else
    f_X12_gets_19 x0 x2 (((20 : Int32) * x0) / (x0 + x1))

def f_X12_isBest_2 (N : Nat) (x0 : Int32) (x1 : Int32) (x2 : Int32) (x3 : Int32)  : Option ((Int32) ⊕ Int32) :=
  if (9 : Int32) < x3 then
    (
      some (1 : Int32)).map Sum.inr
  else
    (f_X12_gets x3 x1 x2).bind fun v1 =>
    (f_X12_gets x0 x1 x2).bind fun v2 =>
    if v1 ≤ v2 then
      some (.inl (x3 + (1 : Int32)))
    else
      (
        some (0 : Int32)).map Sum.inr

def f_X12_isBest (N : Nat) (x0 : Int32) (x1 : Int32) (x2 : Int32)  : Option Int32 :=
  zloop (fun s => f_X12_isBest_2 N x0 x1 x2 s) N (0 : Int32)

def f_X12_rests_85 (N : Nat) (x0 : Nat) (x1 : Int32) (x2 : Int32) (x3 : Int32) (x4 : Int32)  (g : ZS) : Option ((Int32 × Int32 × ZS) ⊕ ((Int32 × Int32 × ZS) ⊕ (Int32 × ZS))) :=
  some (.inl (x2, x4 + (1 : Int32), g))

def f_X12_rests_82 (N : Nat) (x0 : Nat) (x1 : Int32) (x2 : Int32) (x3 : Int32) (x4 : Int32)  (g : ZS) : Option ((Int32 × Int32 × ZS) ⊕ ((Int32 × Int32 × ZS) ⊕ (Int32 × ZS))) :=
  f_X12_rests_85 N x0 x1 (x2 + (1 : Int32)) x3 x4 g

def f_X12_rests_35 (N : Nat) (x0 : Nat) (x1 : Int32) (x2 : Int32) (x3 : Int32) (x4 : Int32)  (g : ZS) : Option ((Int32 × Int32 × ZS) ⊕ ((Int32 × Int32 × ZS) ⊕ (Int32 × ZS))) :=
  if (9 : Int32) < x4 then
    (
      some (.inl (x2, x3 + (1 : Int32), g))).map Sum.inr
  else
    (f_X12_isBest N x3 x4 x1).bind fun v1 =>
    if v1 = 0 then
      f_X12_rests_85 N x0 x1 x2 x3 x4 g
    else
      (f_X12_isBest N x4 x3 x1).bind fun v2 =>
      if v2 = 0 then
        f_X12_rests_85 N x0 x1 x2 x3 x4 g
      else
        if x2 = 0 then
          zvs g x0 12 <| (f_X12_tell x0 x3.toInt64 g).bind fun g3 =>
          zvs g3 x0 12 <| (f_X12_tell x0 x4.toInt64 g3).bind fun g4 =>
          f_X12_rests_82 N x0 x1 x2 x3 x4 g4
        else
          f_X12_rests_82 N x0 x1 x2 x3 x4 g

def f_X12_rests_26 (N : Nat) (x0 : Nat) (x1 : Int32) (x2 : Int32) (x3 : Int32)  (g : ZS) : Option ((Int32 × Int32 × ZS) ⊕ (Int32 × ZS)) :=
  if (9 : Int32) < x3 then
    (
      some (x2, g)).map Sum.inr
  else
    zloop (fun s => f_X12_rests_35 N x0 x1 s.1 x3 s.2.1 s.2.2) N (x2, (0 : Int32), g)

def f_X12_rests (N : Nat) (x0 : Nat) (x1 : Int32)  (g : ZS) : Option (Int32 × ZS) :=
  (zwrI g x0 12 10 (0 : Int32)).bind fun g1 =>
  (f_X12_in x1 (0 : Int32) (9 : Int32)).bind fun v2 =>
  if v2 = 0 then
    some ((-1 : Int32), g1)
  else
    (zwrI g1 x0 12 9 (0 : Int32)).bind fun g3 =>
    zloop (fun s => f_X12_rests_26 N x0 x1 s.1 s.2.1 s.2.2) N ((0 : Int32), (0 : Int32), g3)

def f_X1_init (x0 : Nat) (x1 : Int32)  (g : ZS) : Option ZS :=
  (zwrI g x0 1 0 x1).bind fun g1 =>
  some g1

def f_X1_next_32  (s0 : Int32) (g : ZS) : Option (Int32 × ZS) :=
  some (s0, g)

def f_X1_next (x0 : Nat) (x1 : Int32)  (g : ZS) : Option (Int32 × ZS) :=
  (zrdI g x0 1 0).bind fun v1 =>
  (zwrI g x0 1 0 ((v1 * (1103515245 : Int32)) + (12345 : Int32))).bind fun g2 =>
  if x1 ≤ 0 then
    f_X1_next_32 (0 : Int32) g2
  else
    (zrdI g2 x0 1 0).bind fun v3 =>
    if x1 = 0 then none else
    f_X1_next_32 (((v3.toUInt32 >>> ((16 : Int32).toUInt32 &&& Int32.toUInt32 31)).toInt32) - ((v3.toUInt32 >>> ((16 : Int32).toUInt32 &&& Int32.toUInt32 31)).toInt32) / x1 * x1) g2

def f_X11_drawAct_69 (N : Nat)  (s0 : Int32) (g : ZS) : Option (Int32 × ZS) :=
  if vp_nar .boolean s0 = s0 then some (s0, g) else none

def f_X11_drawAct_107 (N : Nat)   (g : ZS) : Option (Int32 × ZS) :=
  some ((0 : Int32), g)

def f_X11_drawAct (N : Nat) (x0 : Nat) (x1 : Nat)  (g : ZS) : Option (Int32 × ZS) :=
  zvs g x1 1 <| (f_X1_next x1 (5 : Int32) g).bind fun r1 =>
  if (2 : Int32) ≤ r1.1 then
    (zrdR r1.2 x0 11 7).bind fun v2 =>
    (zrdI r1.2 v2 6 1).bind fun v3 =>
    if v3 = 0 then
      some ((0 : Int32), r1.2)
    else
      (zrdR r1.2 x0 11 7).bind fun v4 =>
      (zrdI r1.2 v4 6 1).bind fun v5 =>
      zvs r1.2 x1 1 <| (f_X1_next x1 v5 r1.2).bind fun r6 =>
      if r1.1 = (2 : Int32) then
        (zrdR r6.2 x0 11 7).bind fun v13 =>
        zvs r6.2 x0 11 <| (f_X11_utter N x0 v13 r6.1 r6.2).bind fun r14 =>
        if r14.1 < 0 then
          f_X11_drawAct_69 N (0 : Int32) r14.2
        else
          f_X11_drawAct_69 N (1 : Int32) r14.2
      else
        if r1.1 = (3 : Int32) then
          (zrdR r6.2 x0 11 7).bind fun v10 =>
          zvs r6.2 x1 1 <| (f_X1_next x1 (4 : Int32) r6.2).bind fun r11 =>
          (f_X11_bring v10 r6.1 r11.1 r11.2).bind fun r12 =>
          f_X11_drawAct_107 N r12.2
        else
          (zrdR r6.2 x0 11 7).bind fun v7 =>
          zvs r6.2 x1 1 <| (f_X1_next x1 (8 : Int32) r6.2).bind fun r8 =>
          (f_X11_feed v7 r6.1 r8.1 r8.2).bind fun r9 =>
          f_X11_drawAct_107 N r9.2
  else
    (zrdR r1.2 x0 11 7).bind fun v15 =>
    zvs r1.2 x0 11 <| (f_X11_passDays N x0 v15 (1 : Int32) r1.2).bind fun r16 =>
    some ((0 : Int32), r16.2)

def f_X6_heard_4 (N : Nat) (x0 : Nat) (x1 : Int32) (x2 : Int32)  (g : ZS) : Option ((Int32 × Int32) ⊕ Int32) :=
  (zrdI g x0 6 1).bind fun v1 =>
  if v1 ≤ x2 then
    (
      some x1).map Sum.inr
  else
    (zrdR g x0 6 0).bind fun v2 =>
    (zaald 25 g v2 x2).bind fun v3 =>
    (zrdI g v3 0 7).bind fun v4 =>
    some (.inl (x1 + v4, x2 + (1 : Int32)))

def f_X6_heard (N : Nat) (x0 : Nat)  (g : ZS) : Option Int32 :=
  zloop (fun s => f_X6_heard_4 N x0 s.1 s.2 g) N ((0 : Int32), (0 : Int32))

def f_X12_draw (x0 : Nat) (x1 : Int32)  (g : ZS) : Option (Int32 × ZS) :=
  (zrdI g x0 12 43).bind fun v1 =>
  (zwrI g x0 12 43 ((v1 * (1103515245 : Int32)) + (12345 : Int32))).bind fun g2 =>
  (zrdI g2 x0 12 43).bind fun v3 =>
  if x1 = 0 then none else
  some (((v3.toUInt32 >>> ((16 : Int32).toUInt32 &&& Int32.toUInt32 31)).toInt32) - ((v3.toUInt32 >>> ((16 : Int32).toUInt32 &&& Int32.toUInt32 31)).toInt32) / x1 * x1, g2)

def f_X12_keep (N : Nat) (x0 : Nat) (x1 : Int32)  (g : ZS) : Option (Int32 × ZS) :=
  (zwrI g x0 12 10 (0 : Int32)).bind fun g1 =>
  (f_X12_in x1 (0 : Int32) (1 : Int32)).bind fun v2 =>
  if v2 = 0 then
    some ((0 : Int32), g1)
  else
    (zrdR g1 x0 12 46).bind fun v3 =>
    (zast 22 g1 v3 x1 (1 : Int32)).bind fun g4 =>
    (zrdR g4 x0 12 47).bind fun v5 =>
    (zrdI g4 x0 12 44).bind fun v6 =>
    (zast 20 g4 v5 x1 v6).bind fun g7 =>
    (zrdR g7 x0 12 0).bind fun v8 =>
    (zrdR g7 x0 12 45).bind fun v9 =>
    (f_X12_lay N v8 v9 ((217 : Int32) * x1) g7).bind fun g10 =>
    some ((1 : Int32), g10)

def f_X12_again_36 (N : Nat)   (g : ZS) : Option (Int32 × ZS) :=
  some ((0 : Int32), g)

def f_X12_again_40 (N : Nat) (x0 : Nat) (x1 : Int32) (x2 : Int32)  (g : ZS) : Option ((Int32 × ZS) ⊕ (Int32 × ZS)) :=
  if (217 : Int32) ≤ x2 then
    (
      (zwrI g x0 12 26 (0 : Int32)).bind fun g1 =>
      some ((1 : Int32), g1)).map Sum.inr
  else
    (zrdR g x0 12 0).bind fun v2 =>
    (zrdR g x0 12 45).bind fun v3 =>
    (zald 20 g v3 (((217 : Int32) * x1) + x2)).bind fun v4 =>
    (zast 20 g v2 x2 v4).bind fun g5 =>
    some (.inl (x2 + (1 : Int32), g5))

def f_X12_again (N : Nat) (x0 : Nat) (x1 : Int32)  (g : ZS) : Option (Int32 × ZS) :=
  (zwrI g x0 12 10 (0 : Int32)).bind fun g1 =>
  (f_X12_in x1 (0 : Int32) (1 : Int32)).bind fun v2 =>
  if v2 = 0 then
    f_X12_again_36 N g1
  else
    (zrdR g1 x0 12 46).bind fun v3 =>
    (zald 22 g1 v3 x1).bind fun v4 =>
    if v4 = 0 then
      f_X12_again_36 N g1
    else
      (zrdR g1 x0 12 47).bind fun v5 =>
      (zald 20 g1 v5 x1).bind fun v6 =>
      (zrdI g1 x0 12 44).bind fun v7 =>
      if v6 = v7 then
        zloop (fun s => f_X12_again_40 N x0 x1 s.1 s.2) N ((0 : Int32), g1)
      else
        f_X12_again_36 N g1

def f_X11_count_151 (N : Nat)  (s0 : Int32) (g : ZS) : Option Int32 :=
  some s0

def f_X11_count (N : Nat) (x0 : Nat) (x1 : Int32)  (g : ZS) : Option Int32 :=
  zcase x1 [
    ((0 : Int32),
      (zrdR g x0 11 6).bind fun v1 =>
      (zrdI g v1 6 1).bind fun v2 =>
      some v2),
    ((1 : Int32),
      (zrdR g x0 11 6).bind fun v3 =>
      (zrdI g v3 6 2).bind fun v4 =>
      some v4),
    ((2 : Int32),
      (zrdR g x0 11 6).bind fun v5 =>
      zvs g v5 6 <| (f_X6_covered N v5 g).bind fun v6 =>
      some v6),
    ((3 : Int32),
      (zrdR g x0 11 6).bind fun v7 =>
      zvs g v7 6 <| (f_X6_spoken N v7 g).bind fun v8 =>
      some v8),
    ((4 : Int32),
      (zrdR g x0 11 14).bind fun v9 =>
      (zrdI g v9 7 5).bind fun v10 =>
      some v10),
    ((5 : Int32),
      (zrdR g x0 11 15).bind fun v11 =>
      (zrdI g v11 3 2).bind fun v12 =>
      some v12),
    ((6 : Int32),
      (zrdR g x0 11 8).bind fun v13 =>
      (zrdI g v13 4 1).bind fun v14 =>
      some v14),
    ((7 : Int32),
      (zrdR g x0 11 1).bind fun v15 =>
      (zrdI g v15 9 1).bind fun v16 =>
      some v16),
    ((8 : Int32),
      (zrdR g x0 11 0).bind fun v17 =>
      (zrdI g v17 8 1).bind fun v18 =>
      some v18)] (
    (f_X11_isHouse (x1 - (10 : Int32))).bind fun v19 =>
    if v19 = 0 then
      f_X11_count_151 N (-100 : Int32) g
    else
      (zrdR g x0 11 2).bind fun v20 =>
      (zrdR g v20 2 1).bind fun v21 =>
      (zald 20 g v21 (x1 - (10 : Int32))).bind fun v22 =>
      f_X11_count_151 N v22 g)

def f_X12_count (N : Nat) (x0 : Nat) (x1 : Int32)  (g : ZS) : Option (Int32 × ZS) :=
  (zwrI g x0 12 10 (0 : Int32)).bind fun g1 =>
  (f_X12_in x1 (10 : Int32) (13 : Int32)).bind fun v2 =>
  if v2 = 0 then
    zcase x1 [
      ((0 : Int32),
        (zrdI g1 x0 12 1).bind fun v3 =>
        some (v3, g1)),
      ((1 : Int32),
        (zrdR g1 x0 12 0).bind fun v4 =>
        (zald 20 g1 v4 (216 : Int32)).bind fun v5 =>
        some (v5, g1)),
      ((2 : Int32),
        zvs g1 x0 12 <| (f_X12_cloths N x0 g1).bind fun v6 =>
        some (v6, g1)),
      ((3 : Int32),
        zvs g1 x0 12 <| (f_X12_speakers N x0 g1).bind fun v7 =>
        some (v7, g1)),
      ((4 : Int32),
        (zrdI g1 x0 12 36).bind fun v8 =>
        some (v8, g1)),
      ((5 : Int32),
        (zrdI g1 x0 12 41).bind fun v9 =>
        some (v9, g1)),
      ((6 : Int32),
        (zrdI g1 x0 12 26).bind fun v10 =>
        some (v10, g1)),
      ((7 : Int32),
        (zrdI g1 x0 12 9).bind fun v11 =>
        some (v11, g1)),
      ((8 : Int32),
        (zrdI g1 x0 12 7).bind fun v12 =>
        some (v12, g1))] (
      some ((-100 : Int32), g1))
  else
    (zrdR g1 x0 12 5).bind fun v13 =>
    (zald 20 g1 v13 (x1 - (10 : Int32))).bind fun v14 =>
    some (v14, g1)

def f_X12_row_33  (s0 : Int64) (g : ZS) : Option (Int64 × ZS) :=
  some (s0, g)

def f_X12_row (x0 : Nat) (x1 : Int32)  (g : ZS) : Option (Int64 × ZS) :=
  (zwrI g x0 12 10 (0 : Int32)).bind fun g1 =>
  (zrdI g1 x0 12 9).bind fun v2 =>
  (f_X12_in x1 (0 : Int32) (v2 - (1 : Int32))).bind fun v3 =>
  if v3 = 0 then
    zvs g1 x0 12 <| (f_X12_lost x0 g1).bind fun r4 =>
    f_X12_row_33 r4.1.toInt64 r4.2
  else
    (zrdR g1 x0 12 8).bind fun v5 =>
    (zlald g1 v5 x1).bind fun v6 =>
    f_X12_row_33 v6 g1

theorem j_X12_power_5 {X : ZX} (N : Nat) (x0 : Int64) (x2 : Int32) (x3 : Int64) (x5 : Int32)   (g : ZS) {K : ((Int64 × Int32) ⊕ Int64) → Prop} (h0 : ∀ v, K (.inr v) → xK X (some (.long v)) g) (hL5 : ∀ s, K (.inl s) → zG Y_X12_power X 0 0 5 [some (.long x0), none, some (.int x2), some (.long s.1), none, some (.int s.2)] [] g) : J Y_X12_power X 0 0 5 [some (.long x0), none, some (.int x2), some (.long x3), none, some (.int x5)] [] g (f_X12_power_5 N x0 x2 x3 x5) K := by
  unfold f_X12_power_5
  refine J_iload rfl (show Dc Y_X12_power 5 (.iload 5) 2 7 from ⟨by decide +kernel, rfl⟩) ?_
  refine J_iload_n rfl rfl (show Dc Y_X12_power 7 (.iload_n 2) 1 8 from ⟨by decide +kernel, rfl⟩) ?_
  refine J_icmp_ge (tg := 21) (show Dc Y_X12_power 8 (.if_icmp .ge 13) 3 11 from ⟨by decide +kernel, rfl⟩) (by decide) (fun h => ?_) (fun h => ?_)
  · refine J_map (f := Sum.inr) (fun _ h => h) ?_
    refine J_lload_n rfl rfl (show Dc Y_X12_power 21 (.lload_n 3) 1 22 from ⟨by decide +kernel, rfl⟩) ?_
    exact J_retl (show Dc Y_X12_power 22 (.lreturn) 1 23 from ⟨by decide +kernel, rfl⟩) rfl (h0 _) (by decide) (by decide)
  · refine J_lload_n rfl rfl (show Dc Y_X12_power 11 (.lload_n 3) 1 12 from ⟨by decide +kernel, rfl⟩) ?_
    refine J_lload_n rfl rfl (show Dc Y_X12_power 12 (.lload_n 0) 1 13 from ⟨by decide +kernel, rfl⟩) ?_
    refine J_lmul (show Dc Y_X12_power 13 (.lmul) 1 14 from ⟨by decide +kernel, rfl⟩) ?_
    refine J_lstore_n [some (.long x0), none, some (.int x2), some (.long (x3 * x0)), none, some (.int x5)] (show Dc Y_X12_power 14 (.lstore_n 3) 1 15 from ⟨by decide +kernel, rfl⟩) rfl (by decide) rfl rfl ?_
    refine J_iinc (1 : Int32) [some (.long x0), none, some (.int x2), some (.long (x3 * x0)), none, some (.int (x5 + (1 : Int32)))] (show Dc Y_X12_power 15 (.iinc 5 1) 3 18 from ⟨by decide +kernel, rfl⟩) rfl rfl (by decide) rfl rfl ?_
    refine J_goto (tg := 5) (show Dc Y_X12_power 18 (.goto (-13)) 3 21 from ⟨by decide +kernel, rfl⟩) (by decide) ?_
    exact J_leaf (fun h => hL5 (x3 * x0, x5 + (1 : Int32)) h)

theorem j_X12_power {X : ZX} (N : Nat) (x0 : Int64) (x2 : Int32)   (g : ZS) {K : Int64 → Prop} (h0 : ∀ v, K v → xK X (some (.long v)) g) : J Y_X12_power X 0 0 0 [some (.long x0), none, some (.int x2), none, none, none] [] g (f_X12_power N x0 x2) K := by
  unfold f_X12_power
  refine J_lconst (1 : Int64) rfl (show Dc Y_X12_power 0 (.lconst 1) 1 1 from ⟨by decide +kernel, rfl⟩) ?_
  refine J_lstore_n [some (.long x0), none, some (.int x2), some (.long (1 : Int64)), none, none] (show Dc Y_X12_power 1 (.lstore_n 3) 1 2 from ⟨by decide +kernel, rfl⟩) rfl (by decide) rfl rfl ?_
  refine J_iconst (0 : Int32) rfl (show Dc Y_X12_power 2 (.iconst 0) 1 3 from ⟨by decide +kernel, rfl⟩) ?_
  refine J_istore [some (.long x0), none, some (.int x2), some (.long (1 : Int64)), none, some (.int (0 : Int32))] (show Dc Y_X12_power 3 (.istore 5) 2 5 from ⟨by decide +kernel, rfl⟩) (by decide) rfl rfl ?_
  exact J_loop (X := X) (K := K) (uc := fun _ => 0) (us := fun _ => 0) (lf := fun s => [some (.long x0), none, some (.int x2), some (.long s.1), none, some (.int s.2)]) (gf := fun s => g) (fun s => j_X12_power_5 (K := zKl Y_X12_power X 5 (fun _ => 0) (fun _ => 0) (fun s => [some (.long x0), none, some (.int x2), some (.long s.1), none, some (.int s.2)]) (fun s => g) K) N x0 x2 s.1 s.2 g h0 (fun s h => h)) N ((1 : Int64), (0 : Int32))

theorem c_X12_power {l : Launch} {D : ZD} {B0 : Nat} (N : Nat) (x0 : Int64) (x2 : Int32) (g : ZS) : ∀ r, f_X12_power N x0 x2 = some r → zCt l D B0 yX12_power Y_X12_power [.long x0, .int x2] g (some (.long r)) g :=
  zCt_ofF (vo := fun r => some (.long r)) (so := fun _ => g) (by decide +kernel) rfl (fun h => by cases h) rfl (Nat.le_of_ble_eq_true rfl) (fun X => j_X12_power N x0 x2 g (fun _ h => h))

theorem j_X11_canBeNoted_36 {X : ZX} (x1 : Int32)   (g : ZS) {K : Int32 → Prop} (h0 : ∀ v, K v → xK X (some (.int v)) g) : J Y_X11_canBeNoted X 0 0 36 [none, some (.int x1)] [] g (f_X11_canBeNoted_36 x1) K := by
  unfold f_X11_canBeNoted_36
  refine J_iload_n rfl rfl (show Dc Y_X11_canBeNoted 36 (.iload_n 1) 1 37 from ⟨by decide +kernel, rfl⟩) ?_
  refine J_callSi (fun r => r) (fun _ => g) (show Dc Y_X11_canBeNoted 37 (.invokestatic 196) 3 40 from ⟨by decide +kernel, rfl⟩) w_m_RX11_196 w_st_X11_isWord w_cw_X11_isWord (c_X11_isWord x1 g) rfl rfl (by decide) (Nat.le_of_ble_eq_true rfl) (by decide) (by decide) (fun v1 => ?_)
  exact J_retZ (show Dc Y_X11_canBeNoted 40 (.ireturn) 1 41 from ⟨by decide +kernel, rfl⟩) rfl (h0 _) (by decide) (by decide)

theorem j_X11_canBeNoted_62 {X : ZX}  (s0 : Int32)  (g : ZS) {K : Int32 → Prop} (h0 : ∀ v, K v → xK X (some (.int v)) g) : J Y_X11_canBeNoted X 0 0 62 [none, none] [.int s0] g (f_X11_canBeNoted_62 s0) K := by
  unfold f_X11_canBeNoted_62
  exact J_retZ (show Dc Y_X11_canBeNoted 62 (.ireturn) 1 63 from ⟨by decide +kernel, rfl⟩) rfl (h0 _) (by decide) (by decide)

theorem j_X11_canBeNoted_61 {X : ZX}    (g : ZS) {K : Int32 → Prop} (h0 : ∀ v, K v → xK X (some (.int v)) g) : J Y_X11_canBeNoted X 0 0 61 [none, none] [] g (f_X11_canBeNoted_61) K := by
  unfold f_X11_canBeNoted_61
  refine J_iconst (0 : Int32) rfl (show Dc Y_X11_canBeNoted 61 (.iconst 0) 1 62 from ⟨by decide +kernel, rfl⟩) ?_
  exact j_X11_canBeNoted_62 (0 : Int32) g h0

theorem j_X11_canBeNoted {X : ZX} (x0 : Int32) (x1 : Int32)   (g : ZS) {K : Int32 → Prop} (h0 : ∀ v, K v → xK X (some (.int v)) g) : J Y_X11_canBeNoted X 0 0 0 [some (.int x0), some (.int x1)] [] g (f_X11_canBeNoted x0 x1) K := by
  unfold f_X11_canBeNoted
  refine J_iload_n rfl rfl (show Dc Y_X11_canBeNoted 0 (.iload_n 0) 1 1 from ⟨by decide +kernel, rfl⟩) ?_
  refine J_tsw (tgd := 63) [((0 : Int32), 36, _), ((1 : Int32), 36, _), ((2 : Int32), 41, _), ((3 : Int32), 46, _), ((4 : Int32), 36, _)] (show Dc Y_X11_canBeNoted 1 (.tableswitch 62 0 4 #[35, 35, 40, 45, 35]) 35 36 from ⟨by decide +kernel, rfl⟩) (by simp only [List.map_cons, List.map_nil]; decide +kernel) ?_ ?_
  · refine List.forall_mem_cons.mpr ⟨?_, List.forall_mem_cons.mpr ⟨?_, List.forall_mem_cons.mpr ⟨?_, List.forall_mem_cons.mpr ⟨?_, List.forall_mem_cons.mpr ⟨?_, fun _ h => absurd h List.not_mem_nil⟩⟩⟩⟩⟩
    · refine J_mask [false, true] ?_
      exact j_X11_canBeNoted_36 x1 g h0
    · refine J_mask [false, true] ?_
      exact j_X11_canBeNoted_36 x1 g h0
    · refine J_iload_n rfl rfl (show Dc Y_X11_canBeNoted 41 (.iload_n 1) 1 42 from ⟨by decide +kernel, rfl⟩) ?_
      refine J_callSi (fun r => r) (fun _ => g) (show Dc Y_X11_canBeNoted 42 (.invokestatic 114) 3 45 from ⟨by decide +kernel, rfl⟩) w_m_RX11_114 w_st_X11_isHouse w_cw_X11_isHouse (c_X11_isHouse x1 g) rfl rfl (by decide) (Nat.le_of_ble_eq_true rfl) (by decide) (by decide) (fun v1 => ?_)
      exact J_retZ (show Dc Y_X11_canBeNoted 45 (.ireturn) 1 46 from ⟨by decide +kernel, rfl⟩) rfl (h0 _) (by decide) (by decide)
    · refine J_iload_n rfl rfl (show Dc Y_X11_canBeNoted 46 (.iload_n 1) 1 47 from ⟨by decide +kernel, rfl⟩) ?_
      refine J_iconst (1 : Int32) rfl (show Dc Y_X11_canBeNoted 47 (.iconst 1) 1 48 from ⟨by decide +kernel, rfl⟩) ?_
      refine J_icmp_lt (tg := 61) (show Dc Y_X11_canBeNoted 48 (.if_icmp .lt 13) 3 51 from ⟨by decide +kernel, rfl⟩) (by decide) (fun h => ?_) (fun h => ?_)
      · refine J_mask [false, false] ?_
        exact j_X11_canBeNoted_61 g h0
      · refine J_iload_n rfl rfl (show Dc Y_X11_canBeNoted 51 (.iload_n 1) 1 52 from ⟨by decide +kernel, rfl⟩) ?_
        refine J_bipush (8 : Int32) rfl (show Dc Y_X11_canBeNoted 52 (.bipush 8) 2 54 from ⟨by decide +kernel, rfl⟩) ?_
        refine J_icmp_gt (tg := 61) (show Dc Y_X11_canBeNoted 54 (.if_icmp .gt 7) 3 57 from ⟨by decide +kernel, rfl⟩) (by decide) (fun h => ?_) (fun h => ?_)
        · refine J_mask [false, false] ?_
          exact j_X11_canBeNoted_61 g h0
        · refine J_iconst (1 : Int32) rfl (show Dc Y_X11_canBeNoted 57 (.iconst 1) 1 58 from ⟨by decide +kernel, rfl⟩) ?_
          refine J_goto (tg := 62) (show Dc Y_X11_canBeNoted 58 (.goto 4) 3 61 from ⟨by decide +kernel, rfl⟩) (by decide) ?_
          refine J_mask [false, false] ?_
          exact j_X11_canBeNoted_62 (1 : Int32) g h0
    · refine J_mask [false, true] ?_
      exact j_X11_canBeNoted_36 x1 g h0
  · refine J_iconst (0 : Int32) rfl (show Dc Y_X11_canBeNoted 63 (.iconst 0) 1 64 from ⟨by decide +kernel, rfl⟩) ?_
    exact J_retz rfl (show Dc Y_X11_canBeNoted 64 (.ireturn) 1 65 from ⟨by decide +kernel, rfl⟩) rfl (h0 _) (by decide) (by decide)

theorem c_X11_canBeNoted {l : Launch} {D : ZD} {B0 : Nat} (x0 : Int32) (x1 : Int32) (g : ZS) : ∀ r, f_X11_canBeNoted x0 x1 = some r → zCt l D B0 yX11_canBeNoted Y_X11_canBeNoted [.int x0, .int x1] g (some (.int r)) g :=
  zCt_ofF (vo := fun r => some (.int r)) (so := fun _ => g) (by decide +kernel) rfl (fun h => by cases h) rfl (Nat.le_of_ble_eq_true rfl) (fun X => j_X11_canBeNoted x0 x1 g (fun _ h => h))

theorem j_X3_add_39 {X : ZX}    (g : ZS) {K : ZS → Prop} (h0 : ∀ g, K g → xK X none g) : J Y_X3_add X 0 0 39 [none, none, none] [] g (f_X3_add_39 g) K := by
  unfold f_X3_add_39
  exact J_ret0 (show Dc Y_X3_add 39 (.return_) 1 40 from ⟨by decide +kernel, rfl⟩) rfl (h0 _) (by decide) (by decide)

theorem j_X3_add {X : ZX} (x0 : Nat) (x1 : Int32) (x2 : Int32)   (g : ZS) {K : ZS → Prop} (h0 : ∀ g, K g → xK X none g) : J Y_X3_add X 0 0 0 [some (.ref x0), some (.int x1), some (.int x2)] [] g (f_X3_add x0 x1 x2 g) K := by
  unfold f_X3_add
  refine J_aload_n rfl rfl (show Dc Y_X3_add 0 (.aload_n 0) 1 1 from ⟨by decide +kernel, rfl⟩) ?_
  refine J_getI (show Dc Y_X3_add 1 (.getfield 18) 3 4 from ⟨by decide +kernel, rfl⟩) w_f_RX3_18 rfl (fun v1 => ?_)
  refine J_bipush (12 : Int32) rfl (show Dc Y_X3_add 4 (.bipush 12) 2 6 from ⟨by decide +kernel, rfl⟩) ?_
  refine J_icmp_ge (tg := 39) (show Dc Y_X3_add 6 (.if_icmp .ge 33) 3 9 from ⟨by decide +kernel, rfl⟩) (by decide) (fun h => ?_) (fun h => ?_)
  · refine J_mask [false, false, false] ?_
    exact j_X3_add_39 g h0
  · refine J_aload_n rfl rfl (show Dc Y_X3_add 9 (.aload_n 0) 1 10 from ⟨by decide +kernel, rfl⟩) ?_
    refine J_getR (show Dc Y_X3_add 10 (.getfield 9) 3 13 from ⟨by decide +kernel, rfl⟩) w_f_RX3_9 rfl (fun v2 => ?_)
    refine J_aload_n rfl rfl (show Dc Y_X3_add 13 (.aload_n 0) 1 14 from ⟨by decide +kernel, rfl⟩) ?_
    refine J_getI (show Dc Y_X3_add 14 (.getfield 18) 3 17 from ⟨by decide +kernel, rfl⟩) w_f_RX3_18 rfl (fun v3 => ?_)
    refine J_iload_n rfl rfl (show Dc Y_X3_add 17 (.iload_n 1) 1 18 from ⟨by decide +kernel, rfl⟩) ?_
    refine J_iast (show Dc Y_X3_add 18 (.iastore) 1 19 from ⟨by decide +kernel, rfl⟩) (fun g4 => ?_)
    refine J_aload_n rfl rfl (show Dc Y_X3_add 19 (.aload_n 0) 1 20 from ⟨by decide +kernel, rfl⟩) ?_
    refine J_getR (show Dc Y_X3_add 20 (.getfield 15) 3 23 from ⟨by decide +kernel, rfl⟩) w_f_RX3_15 rfl (fun v5 => ?_)
    refine J_aload_n rfl rfl (show Dc Y_X3_add 23 (.aload_n 0) 1 24 from ⟨by decide +kernel, rfl⟩) ?_
    refine J_getI (show Dc Y_X3_add 24 (.getfield 18) 3 27 from ⟨by decide +kernel, rfl⟩) w_f_RX3_18 rfl (fun v6 => ?_)
    refine J_iload_n rfl rfl (show Dc Y_X3_add 27 (.iload_n 2) 1 28 from ⟨by decide +kernel, rfl⟩) ?_
    refine J_iast (show Dc Y_X3_add 28 (.iastore) 1 29 from ⟨by decide +kernel, rfl⟩) (fun g7 => ?_)
    refine J_aload_n rfl rfl (show Dc Y_X3_add 29 (.aload_n 0) 1 30 from ⟨by decide +kernel, rfl⟩) ?_
    refine J_dup rfl (show Dc Y_X3_add 30 (.dup) 1 31 from ⟨by decide +kernel, rfl⟩) ?_
    refine J_getI (show Dc Y_X3_add 31 (.getfield 18) 3 34 from ⟨by decide +kernel, rfl⟩) w_f_RX3_18 rfl (fun v8 => ?_)
    refine J_iconst (1 : Int32) rfl (show Dc Y_X3_add 34 (.iconst 1) 1 35 from ⟨by decide +kernel, rfl⟩) ?_
    refine J_iadd (show Dc Y_X3_add 35 (.iadd) 1 36 from ⟨by decide +kernel, rfl⟩) ?_
    refine J_putI (show Dc Y_X3_add 36 (.putfield 18) 3 39 from ⟨by decide +kernel, rfl⟩) w_f_RX3_18 rfl rfl (fun g9 => ?_) (fun h => by cases h)
    refine J_mask [false, false, false] ?_
    exact j_X3_add_39 g9 h0

theorem c_X3_add {l : Launch} {D : ZD} {B0 : Nat} (x0 : Nat) (x1 : Int32) (x2 : Int32) (g : ZS) : ∀ r, f_X3_add x0 x1 x2 g = some r → zCt l D B0 yX3_add Y_X3_add [.ref x0, .int x1, .int x2] g none r :=
  zCt_ofF (vo := fun _ => none) (so := fun r => r) (by decide +kernel) rfl (fun h => by cases h) rfl (Nat.le_of_ble_eq_true rfl) (fun X => j_X3_add x0 x1 x2 g (fun _ h => h))

theorem j_X11_note_20 {X : ZX}    (g : ZS) {K : (Int32 × ZS) → Prop} (h0 : ∀ v g, K (v, g) → xK X (some (.int v)) g) : J Y_X11_note X 0 0 20 [none, none, none] [] g (f_X11_note_20 g) K := by
  unfold f_X11_note_20
  refine J_iconst (-1 : Int32) rfl (show Dc Y_X11_note 20 (.iconst (-1)) 1 21 from ⟨by decide +kernel, rfl⟩) ?_
  exact J_reti (show Dc Y_X11_note 21 (.ireturn) 1 22 from ⟨by decide +kernel, rfl⟩) rfl (h0 _ _) (by decide) (by decide)

theorem j_X11_note {X : ZX} (x0 : Nat) (x1 : Int32) (x2 : Int32)   (g : ZS) {K : (Int32 × ZS) → Prop} (h0 : ∀ v g, K (v, g) → xK X (some (.int v)) g) : J Y_X11_note X 0 0 0 [some (.ref x0), some (.int x1), some (.int x2)] [] g (f_X11_note x0 x1 x2 g) K := by
  unfold f_X11_note
  refine J_aload_n rfl rfl (show Dc Y_X11_note 0 (.aload_n 0) 1 1 from ⟨by decide +kernel, rfl⟩) ?_
  refine J_getR (show Dc Y_X11_note 1 (.getfield 96) 3 4 from ⟨by decide +kernel, rfl⟩) w_f_RX11_96 rfl (fun v1 => ?_)
  refine J_getI (show Dc Y_X11_note 4 (.getfield 422) 3 7 from ⟨by decide +kernel, rfl⟩) w_f_RX11_422 rfl (fun v2 => ?_)
  refine J_bipush (12 : Int32) rfl (show Dc Y_X11_note 7 (.bipush 12) 2 9 from ⟨by decide +kernel, rfl⟩) ?_
  refine J_icmp_ge (tg := 20) (show Dc Y_X11_note 9 (.if_icmp .ge 11) 3 12 from ⟨by decide +kernel, rfl⟩) (by decide) (fun h => ?_) (fun h => ?_)
  · refine J_mask [false, false, false] ?_
    exact j_X11_note_20 g h0
  · refine J_iload_n rfl rfl (show Dc Y_X11_note 12 (.iload_n 1) 1 13 from ⟨by decide +kernel, rfl⟩) ?_
    refine J_iload_n rfl rfl (show Dc Y_X11_note 13 (.iload_n 2) 1 14 from ⟨by decide +kernel, rfl⟩) ?_
    refine J_callSi (fun r => r) (fun _ => g) (show Dc Y_X11_note 14 (.invokestatic 423) 3 17 from ⟨by decide +kernel, rfl⟩) w_m_RX11_423 w_st_X11_canBeNoted w_cw_X11_canBeNoted (c_X11_canBeNoted x1 x2 g) rfl rfl (by decide) (Nat.le_of_ble_eq_true rfl) (by decide) (by decide) (fun v3 => ?_)
    refine J_if_ne (tg := 22) (show Dc Y_X11_note 17 (.ifCond .ne 5) 3 20 from ⟨by decide +kernel, rfl⟩) (by decide) (fun h => ?_) (fun h => ?_)
    · refine J_aload_n rfl rfl (show Dc Y_X11_note 22 (.aload_n 0) 1 23 from ⟨by decide +kernel, rfl⟩) ?_
      refine J_getR (show Dc Y_X11_note 23 (.getfield 96) 3 26 from ⟨by decide +kernel, rfl⟩) w_f_RX11_96 rfl (fun v4 => ?_)
      refine J_iload_n rfl rfl (show Dc Y_X11_note 26 (.iload_n 1) 1 27 from ⟨by decide +kernel, rfl⟩) ?_
      refine J_iload_n rfl rfl (show Dc Y_X11_note 27 (.iload_n 2) 1 28 from ⟨by decide +kernel, rfl⟩) ?_
      refine J_callVv (fun r => r) (show Dc Y_X11_note 28 (.invokevirtual 426) 3 31 from ⟨by decide +kernel, rfl⟩) w_m_RX11_426 w_in_X3_add rfl w_se_X3_add w_cw_X3_add (c_X3_add v4 x1 x2 g) rfl rfl (by decide) (Nat.le_of_ble_eq_true rfl) (by decide) (by decide) (fun g5 => ?_)
      refine J_aload_n rfl rfl (show Dc Y_X11_note 31 (.aload_n 0) 1 32 from ⟨by decide +kernel, rfl⟩) ?_
      refine J_getR (show Dc Y_X11_note 32 (.getfield 96) 3 35 from ⟨by decide +kernel, rfl⟩) w_f_RX11_96 rfl (fun v6 => ?_)
      refine J_getI (show Dc Y_X11_note 35 (.getfield 422) 3 38 from ⟨by decide +kernel, rfl⟩) w_f_RX11_422 rfl (fun v7 => ?_)
      exact J_reti (show Dc Y_X11_note 38 (.ireturn) 1 39 from ⟨by decide +kernel, rfl⟩) rfl (h0 _ _) (by decide) (by decide)
    · refine J_mask [false, false, false] ?_
      exact j_X11_note_20 g h0

theorem c_X11_note {l : Launch} {D : ZD} {B0 : Nat} (x0 : Nat) (x1 : Int32) (x2 : Int32) (g : ZS) : ∀ r, f_X11_note x0 x1 x2 g = some r → zCt l D B0 yX11_note Y_X11_note [.ref x0, .int x1, .int x2] g (some (.int r.1)) r.2 :=
  zCt_ofF (vo := fun r => some (.int r.1)) (so := fun r => r.2) (by decide +kernel) rfl (fun h => by cases h) rfl (Nat.le_of_ble_eq_true rfl) (fun X => j_X11_note x0 x1 x2 g (fun _ _ h => h))

theorem j_X12_note_61 {X : ZX}    (g : ZS) {K : (Int32 × ZS) → Prop} (h0 : ∀ v g, K (v, g) → xK X (some (.int v)) g) : J Y_X12_note X 0 0 61 [none, none, none] [] g (f_X12_note_61 g) K := by
  unfold f_X12_note_61
  refine J_iconst (-1 : Int32) rfl (show Dc Y_X12_note 61 (.iconst (-1)) 1 62 from ⟨by decide +kernel, rfl⟩) ?_
  exact J_reti (show Dc Y_X12_note 62 (.ireturn) 1 63 from ⟨by decide +kernel, rfl⟩) rfl (h0 _ _) (by decide) (by decide)

theorem j_X12_note_46 {X : ZX} (x0 : Nat) (x1 : Int32) (x2 : Int32) (s0 : Int32) (s1 : Int32) (s2 : Int32)  (g : ZS) {K : (Int32 × ZS) → Prop} (h0 : ∀ v g, K (v, g) → xK X (some (.int v)) g) : J Y_X12_note X 0 0 46 [some (.ref x0), some (.int x1), some (.int x2)] [.int s2, .int s1, .int s0] g (f_X12_note_46 x0 x1 x2 s0 s1 s2 g) K := by
  unfold f_X12_note_46
  refine J_callSi (fun r => r) (fun _ => g) (show Dc Y_X12_note 46 (.invokestatic 119) 3 49 from ⟨by decide +kernel, rfl⟩) w_m_RX12_119 w_st_X12_in w_cw_X12_in (c_X12_in s0 s1 s2 g) rfl rfl (by decide) (Nat.le_of_ble_eq_true rfl) (by decide) (by decide) (fun v1 => ?_)
  refine J_if_eq (tg := 61) (show Dc Y_X12_note 49 (.ifCond .eq 12) 3 52 from ⟨by decide +kernel, rfl⟩) (by decide) (fun h => ?_) (fun h => ?_)
  · refine J_mask [false, false, false] ?_
    exact j_X12_note_61 g h0
  · refine J_aload_n rfl rfl (show Dc Y_X12_note 52 (.aload_n 0) 1 53 from ⟨by decide +kernel, rfl⟩) ?_
    refine J_getI (show Dc Y_X12_note 53 (.getfield 373) 3 56 from ⟨by decide +kernel, rfl⟩) w_f_RX12_373 rfl (fun v2 => ?_)
    refine J_bipush (12 : Int32) rfl (show Dc Y_X12_note 56 (.bipush 12) 2 58 from ⟨by decide +kernel, rfl⟩) ?_
    refine J_icmp_ne (tg := 63) (show Dc Y_X12_note 58 (.if_icmp .ne 5) 3 61 from ⟨by decide +kernel, rfl⟩) (by decide) (fun h => ?_) (fun h => ?_)
    · refine J_aload_n rfl rfl (show Dc Y_X12_note 63 (.aload_n 0) 1 64 from ⟨by decide +kernel, rfl⟩) ?_
      refine J_getR (show Dc Y_X12_note 64 (.getfield 90) 3 67 from ⟨by decide +kernel, rfl⟩) w_f_RX12_90 rfl (fun v3 => ?_)
      refine J_aload_n rfl rfl (show Dc Y_X12_note 67 (.aload_n 0) 1 68 from ⟨by decide +kernel, rfl⟩) ?_
      refine J_getI (show Dc Y_X12_note 68 (.getfield 373) 3 71 from ⟨by decide +kernel, rfl⟩) w_f_RX12_373 rfl (fun v4 => ?_)
      refine J_iload_n rfl rfl (show Dc Y_X12_note 71 (.iload_n 1) 1 72 from ⟨by decide +kernel, rfl⟩) ?_
      refine J_iast (show Dc Y_X12_note 72 (.iastore) 1 73 from ⟨by decide +kernel, rfl⟩) (fun g5 => ?_)
      refine J_aload_n rfl rfl (show Dc Y_X12_note 73 (.aload_n 0) 1 74 from ⟨by decide +kernel, rfl⟩) ?_
      refine J_getR (show Dc Y_X12_note 74 (.getfield 93) 3 77 from ⟨by decide +kernel, rfl⟩) w_f_RX12_93 rfl (fun v6 => ?_)
      refine J_aload_n rfl rfl (show Dc Y_X12_note 77 (.aload_n 0) 1 78 from ⟨by decide +kernel, rfl⟩) ?_
      refine J_getI (show Dc Y_X12_note 78 (.getfield 373) 3 81 from ⟨by decide +kernel, rfl⟩) w_f_RX12_373 rfl (fun v7 => ?_)
      refine J_iload_n rfl rfl (show Dc Y_X12_note 81 (.iload_n 2) 1 82 from ⟨by decide +kernel, rfl⟩) ?_
      refine J_iast (show Dc Y_X12_note 82 (.iastore) 1 83 from ⟨by decide +kernel, rfl⟩) (fun g8 => ?_)
      refine J_aload_n rfl rfl (show Dc Y_X12_note 83 (.aload_n 0) 1 84 from ⟨by decide +kernel, rfl⟩) ?_
      refine J_dup rfl (show Dc Y_X12_note 84 (.dup) 1 85 from ⟨by decide +kernel, rfl⟩) ?_
      refine J_getI (show Dc Y_X12_note 85 (.getfield 373) 3 88 from ⟨by decide +kernel, rfl⟩) w_f_RX12_373 rfl (fun v9 => ?_)
      refine J_iconst (1 : Int32) rfl (show Dc Y_X12_note 88 (.iconst 1) 1 89 from ⟨by decide +kernel, rfl⟩) ?_
      refine J_iadd (show Dc Y_X12_note 89 (.iadd) 1 90 from ⟨by decide +kernel, rfl⟩) ?_
      refine J_putI (show Dc Y_X12_note 90 (.putfield 373) 3 93 from ⟨by decide +kernel, rfl⟩) w_f_RX12_373 rfl rfl (fun g10 => ?_) (fun h => by cases h)
      refine J_aload_n rfl rfl (show Dc Y_X12_note 93 (.aload_n 0) 1 94 from ⟨by decide +kernel, rfl⟩) ?_
      refine J_getI (show Dc Y_X12_note 94 (.getfield 373) 3 97 from ⟨by decide +kernel, rfl⟩) w_f_RX12_373 rfl (fun v11 => ?_)
      exact J_reti (show Dc Y_X12_note 97 (.ireturn) 1 98 from ⟨by decide +kernel, rfl⟩) rfl (h0 _ _) (by decide) (by decide)
    · refine J_mask [false, false, false] ?_
      exact j_X12_note_61 g h0

theorem j_X12_note_25 {X : ZX} (x0 : Nat) (x1 : Int32) (x2 : Int32) (s0 : Int32) (s1 : Int32)  (g : ZS) {K : (Int32 × ZS) → Prop} (h0 : ∀ v g, K (v, g) → xK X (some (.int v)) g) : J Y_X12_note X 0 0 25 [some (.ref x0), some (.int x1), some (.int x2)] [.int s1, .int s0] g (f_X12_note_25 x0 x1 x2 s0 s1 g) K := by
  unfold f_X12_note_25
  refine J_iload_n rfl rfl (show Dc Y_X12_note 25 (.iload_n 1) 1 26 from ⟨by decide +kernel, rfl⟩) ?_
  refine J_iconst (2 : Int32) rfl (show Dc Y_X12_note 26 (.iconst 2) 1 27 from ⟨by decide +kernel, rfl⟩) ?_
  refine J_icmp_ne (tg := 34) (show Dc Y_X12_note 27 (.if_icmp .ne 7) 3 30 from ⟨by decide +kernel, rfl⟩) (by decide) (fun h => ?_) (fun h => ?_)
  · refine J_iload_n rfl rfl (show Dc Y_X12_note 34 (.iload_n 1) 1 35 from ⟨by decide +kernel, rfl⟩) ?_
    refine J_iconst (3 : Int32) rfl (show Dc Y_X12_note 35 (.iconst 3) 1 36 from ⟨by decide +kernel, rfl⟩) ?_
    refine J_icmp_ne (tg := 44) (show Dc Y_X12_note 36 (.if_icmp .ne 8) 3 39 from ⟨by decide +kernel, rfl⟩) (by decide) (fun h => ?_) (fun h => ?_)
    · refine J_bipush (7 : Int32) rfl (show Dc Y_X12_note 44 (.bipush 7) 2 46 from ⟨by decide +kernel, rfl⟩) ?_
      exact j_X12_note_46 x0 x1 x2 s0 s1 (7 : Int32) g h0
    · refine J_bipush (8 : Int32) rfl (show Dc Y_X12_note 39 (.bipush 8) 2 41 from ⟨by decide +kernel, rfl⟩) ?_
      refine J_goto (tg := 46) (show Dc Y_X12_note 41 (.goto 5) 3 44 from ⟨by decide +kernel, rfl⟩) (by decide) ?_
      exact j_X12_note_46 x0 x1 x2 s0 s1 (8 : Int32) g h0
  · refine J_iconst (3 : Int32) rfl (show Dc Y_X12_note 30 (.iconst 3) 1 31 from ⟨by decide +kernel, rfl⟩) ?_
    refine J_goto (tg := 46) (show Dc Y_X12_note 31 (.goto 15) 3 34 from ⟨by decide +kernel, rfl⟩) (by decide) ?_
    exact j_X12_note_46 x0 x1 x2 s0 s1 (3 : Int32) g h0

theorem j_X12_note {X : ZX} (x0 : Nat) (x1 : Int32) (x2 : Int32)   (g : ZS) {K : (Int32 × ZS) → Prop} (h0 : ∀ v g, K (v, g) → xK X (some (.int v)) g) : J Y_X12_note X 0 0 0 [some (.ref x0), some (.int x1), some (.int x2)] [] g (f_X12_note x0 x1 x2 g) K := by
  unfold f_X12_note
  refine J_aload_n rfl rfl (show Dc Y_X12_note 0 (.aload_n 0) 1 1 from ⟨by decide +kernel, rfl⟩) ?_
  refine J_iconst (0 : Int32) rfl (show Dc Y_X12_note 1 (.iconst 0) 1 2 from ⟨by decide +kernel, rfl⟩) ?_
  refine J_putI (show Dc Y_X12_note 2 (.putfield 109) 3 5 from ⟨by decide +kernel, rfl⟩) w_f_RX12_109 rfl rfl (fun g1 => ?_) (fun h => by cases h)
  refine J_iload_n rfl rfl (show Dc Y_X12_note 5 (.iload_n 1) 1 6 from ⟨by decide +kernel, rfl⟩) ?_
  refine J_iconst (0 : Int32) rfl (show Dc Y_X12_note 6 (.iconst 0) 1 7 from ⟨by decide +kernel, rfl⟩) ?_
  refine J_iconst (4 : Int32) rfl (show Dc Y_X12_note 7 (.iconst 4) 1 8 from ⟨by decide +kernel, rfl⟩) ?_
  refine J_callSi (fun r => r) (fun _ => g1) (show Dc Y_X12_note 8 (.invokestatic 119) 3 11 from ⟨by decide +kernel, rfl⟩) w_m_RX12_119 w_st_X12_in w_cw_X12_in (c_X12_in x1 (0 : Int32) (4 : Int32) g1) rfl rfl (by decide) (Nat.le_of_ble_eq_true rfl) (by decide) (by decide) (fun v2 => ?_)
  refine J_if_eq (tg := 61) (show Dc Y_X12_note 11 (.ifCond .eq 50) 3 14 from ⟨by decide +kernel, rfl⟩) (by decide) (fun h => ?_) (fun h => ?_)
  · refine J_mask [false, false, false] ?_
    exact j_X12_note_61 g1 h0
  · refine J_iload_n rfl rfl (show Dc Y_X12_note 14 (.iload_n 2) 1 15 from ⟨by decide +kernel, rfl⟩) ?_
    refine J_iload_n rfl rfl (show Dc Y_X12_note 15 (.iload_n 1) 1 16 from ⟨by decide +kernel, rfl⟩) ?_
    refine J_iconst (3 : Int32) rfl (show Dc Y_X12_note 16 (.iconst 3) 1 17 from ⟨by decide +kernel, rfl⟩) ?_
    refine J_icmp_ne (tg := 24) (show Dc Y_X12_note 17 (.if_icmp .ne 7) 3 20 from ⟨by decide +kernel, rfl⟩) (by decide) (fun h => ?_) (fun h => ?_)
    · refine J_iconst (0 : Int32) rfl (show Dc Y_X12_note 24 (.iconst 0) 1 25 from ⟨by decide +kernel, rfl⟩) ?_
      exact j_X12_note_25 x0 x1 x2 x2 (0 : Int32) g1 h0
    · refine J_iconst (1 : Int32) rfl (show Dc Y_X12_note 20 (.iconst 1) 1 21 from ⟨by decide +kernel, rfl⟩) ?_
      refine J_goto (tg := 25) (show Dc Y_X12_note 21 (.goto 4) 3 24 from ⟨by decide +kernel, rfl⟩) (by decide) ?_
      exact j_X12_note_25 x0 x1 x2 x2 (1 : Int32) g1 h0

theorem c_X12_note {l : Launch} {D : ZD} {B0 : Nat} (x0 : Nat) (x1 : Int32) (x2 : Int32) (g : ZS) : ∀ r, f_X12_note x0 x1 x2 g = some r → zCt l D B0 yX12_note Y_X12_note [.ref x0, .int x1, .int x2] g (some (.int r.1)) r.2 :=
  zCt_ofF (vo := fun r => some (.int r.1)) (so := fun r => r.2) (by decide +kernel) rfl (fun h => by cases h) rfl (Nat.le_of_ble_eq_true rfl) (fun X => j_X12_note x0 x1 x2 g (fun _ _ h => h))

theorem j_X11_strike {X : ZX} (x0 : Nat)   (g : ZS) {K : (Int32 × ZS) → Prop} (h0 : ∀ v g, K (v, g) → xK X (some (.int v)) g) : J Y_X11_strike X 0 0 0 [some (.ref x0), none] [] g (f_X11_strike x0 g) K := by
  unfold f_X11_strike
  refine J_aload_n rfl rfl (show Dc Y_X11_strike 0 (.aload_n 0) 1 1 from ⟨by decide +kernel, rfl⟩) ?_
  refine J_getR (show Dc Y_X11_strike 1 (.getfield 96) 3 4 from ⟨by decide +kernel, rfl⟩) w_f_RX11_96 rfl (fun v1 => ?_)
  refine J_getI (show Dc Y_X11_strike 4 (.getfield 422) 3 7 from ⟨by decide +kernel, rfl⟩) w_f_RX11_422 rfl (fun v2 => ?_)
  refine J_istore_n [some (.ref x0), some (.int v2)] (show Dc Y_X11_strike 7 (.istore_n 1) 1 8 from ⟨by decide +kernel, rfl⟩) rfl (by decide) rfl rfl ?_
  refine J_aload_n rfl rfl (show Dc Y_X11_strike 8 (.aload_n 0) 1 9 from ⟨by decide +kernel, rfl⟩) ?_
  refine J_getR (show Dc Y_X11_strike 9 (.getfield 96) 3 12 from ⟨by decide +kernel, rfl⟩) w_f_RX11_96 rfl (fun v3 => ?_)
  refine J_iconst (0 : Int32) rfl (show Dc Y_X11_strike 12 (.iconst 0) 1 13 from ⟨by decide +kernel, rfl⟩) ?_
  refine J_putI (show Dc Y_X11_strike 13 (.putfield 422) 3 16 from ⟨by decide +kernel, rfl⟩) w_f_RX11_422 rfl rfl (fun g4 => ?_) (fun h => by cases h)
  refine J_iload_n rfl rfl (show Dc Y_X11_strike 16 (.iload_n 1) 1 17 from ⟨by decide +kernel, rfl⟩) ?_
  exact J_reti (show Dc Y_X11_strike 17 (.ireturn) 1 18 from ⟨by decide +kernel, rfl⟩) rfl (h0 _ _) (by decide) (by decide)

theorem c_X11_strike {l : Launch} {D : ZD} {B0 : Nat} (x0 : Nat) (g : ZS) : ∀ r, f_X11_strike x0 g = some r → zCt l D B0 yX11_strike Y_X11_strike [.ref x0] g (some (.int r.1)) r.2 :=
  zCt_ofF (vo := fun r => some (.int r.1)) (so := fun r => r.2) (by decide +kernel) rfl (fun h => by cases h) rfl (Nat.le_of_ble_eq_true rfl) (fun X => j_X11_strike x0 g (fun _ _ h => h))

theorem j_X12_strike {X : ZX} (x0 : Nat)   (g : ZS) {K : (Int32 × ZS) → Prop} (h0 : ∀ v g, K (v, g) → xK X (some (.int v)) g) : J Y_X12_strike X 0 0 0 [some (.ref x0), none] [] g (f_X12_strike x0 g) K := by
  unfold f_X12_strike
  refine J_aload_n rfl rfl (show Dc Y_X12_strike 0 (.aload_n 0) 1 1 from ⟨by decide +kernel, rfl⟩) ?_
  refine J_iconst (0 : Int32) rfl (show Dc Y_X12_strike 1 (.iconst 0) 1 2 from ⟨by decide +kernel, rfl⟩) ?_
  refine J_putI (show Dc Y_X12_strike 2 (.putfield 109) 3 5 from ⟨by decide +kernel, rfl⟩) w_f_RX12_109 rfl rfl (fun g1 => ?_) (fun h => by cases h)
  refine J_aload_n rfl rfl (show Dc Y_X12_strike 5 (.aload_n 0) 1 6 from ⟨by decide +kernel, rfl⟩) ?_
  refine J_getI (show Dc Y_X12_strike 6 (.getfield 373) 3 9 from ⟨by decide +kernel, rfl⟩) w_f_RX12_373 rfl (fun v2 => ?_)
  refine J_istore_n [some (.ref x0), some (.int v2)] (show Dc Y_X12_strike 9 (.istore_n 1) 1 10 from ⟨by decide +kernel, rfl⟩) rfl (by decide) rfl rfl ?_
  refine J_aload_n rfl rfl (show Dc Y_X12_strike 10 (.aload_n 0) 1 11 from ⟨by decide +kernel, rfl⟩) ?_
  refine J_iconst (0 : Int32) rfl (show Dc Y_X12_strike 11 (.iconst 0) 1 12 from ⟨by decide +kernel, rfl⟩) ?_
  refine J_putI (show Dc Y_X12_strike 12 (.putfield 373) 3 15 from ⟨by decide +kernel, rfl⟩) w_f_RX12_373 rfl rfl (fun g3 => ?_) (fun h => by cases h)
  refine J_iload_n rfl rfl (show Dc Y_X12_strike 15 (.iload_n 1) 1 16 from ⟨by decide +kernel, rfl⟩) ?_
  exact J_reti (show Dc Y_X12_strike 16 (.ireturn) 1 17 from ⟨by decide +kernel, rfl⟩) rfl (h0 _ _) (by decide) (by decide)

theorem c_X12_strike {l : Launch} {D : ZD} {B0 : Nat} (x0 : Nat) (g : ZS) : ∀ r, f_X12_strike x0 g = some r → zCt l D B0 yX12_strike Y_X12_strike [.ref x0] g (some (.int r.1)) r.2 :=
  zCt_ofF (vo := fun r => some (.int r.1)) (so := fun r => r.2) (by decide +kernel) rfl (fun h => by cases h) rfl (Nat.le_of_ble_eq_true rfl) (fun X => j_X12_strike x0 g (fun _ _ h => h))

theorem j_X3_suits_46 {X : ZX} (N : Nat)  (s0 : Int32)  (g : ZS) {K : Int32 → Prop} (h0 : ∀ v, K v → xK X (some (.int v)) g) : J Y_X3_suits X 0 0 46 [none, none, none, none] [.int s0] g (f_X3_suits_46 N s0 g) K := by
  unfold f_X3_suits_46
  exact J_retZ (show Dc Y_X3_suits 46 (.ireturn) 1 47 from ⟨by decide +kernel, rfl⟩) rfl (h0 _) (by decide) (by decide)

theorem j_X3_suits_61 {X : ZX} (N : Nat)  (s0 : Int32)  (g : ZS) {K : Int32 → Prop} (h0 : ∀ v, K v → xK X (some (.int v)) g) : J Y_X3_suits X 0 0 61 [none, none, none, none] [.int s0] g (f_X3_suits_61 N s0 g) K := by
  unfold f_X3_suits_61
  exact J_retZ (show Dc Y_X3_suits 61 (.ireturn) 1 62 from ⟨by decide +kernel, rfl⟩) rfl (h0 _) (by decide) (by decide)

theorem j_X3_suits_75 {X : ZX} (N : Nat)  (s0 : Int32)  (g : ZS) {K : Int32 → Prop} (h0 : ∀ v, K v → xK X (some (.int v)) g) : J Y_X3_suits X 0 0 75 [none, none, none, none] [.int s0] g (f_X3_suits_75 N s0 g) K := by
  unfold f_X3_suits_75
  exact J_retZ (show Dc Y_X3_suits 75 (.ireturn) 1 76 from ⟨by decide +kernel, rfl⟩) rfl (h0 _) (by decide) (by decide)

theorem j_X3_suits_89 {X : ZX} (N : Nat)  (s0 : Int32)  (g : ZS) {K : Int32 → Prop} (h0 : ∀ v, K v → xK X (some (.int v)) g) : J Y_X3_suits X 0 0 89 [none, none, none, none] [.int s0] g (f_X3_suits_89 N s0 g) K := by
  unfold f_X3_suits_89
  exact J_retZ (show Dc Y_X3_suits 89 (.ireturn) 1 90 from ⟨by decide +kernel, rfl⟩) rfl (h0 _) (by decide) (by decide)

theorem j_X3_suits_104 {X : ZX} (N : Nat)  (s0 : Int32)  (g : ZS) {K : Int32 → Prop} (h0 : ∀ v, K v → xK X (some (.int v)) g) : J Y_X3_suits X 0 0 104 [none, none, none, none] [.int s0] g (f_X3_suits_104 N s0 g) K := by
  unfold f_X3_suits_104
  exact J_retZ (show Dc Y_X3_suits 104 (.ireturn) 1 105 from ⟨by decide +kernel, rfl⟩) rfl (h0 _) (by decide) (by decide)

theorem j_X3_suits {X : ZX} (N : Nat) (x0 : Int32) (x1 : Int32) (x2 : Nat) (x3 : Nat)   (g : ZS) {K : Int32 → Prop} (h0 : ∀ v, K v → xK X (some (.int v)) g) : J Y_X3_suits X 0 0 0 [some (.int x0), some (.int x1), some (.ref x2), some (.ref x3)] [] g (f_X3_suits N x0 x1 x2 x3 g) K := by
  unfold f_X3_suits
  refine J_iload_n rfl rfl (show Dc Y_X3_suits 0 (.iload_n 0) 1 1 from ⟨by decide +kernel, rfl⟩) ?_
  refine J_tsw (tgd := 90) [((0 : Int32), 32, _), ((1 : Int32), 47, _), ((2 : Int32), 62, _), ((3 : Int32), 76, _)] (show Dc Y_X3_suits 1 (.tableswitch 89 0 3 #[31, 46, 61, 75]) 31 32 from ⟨by decide +kernel, rfl⟩) (by simp only [List.map_cons, List.map_nil]; decide +kernel) ?_ ?_
  · refine List.forall_mem_cons.mpr ⟨?_, List.forall_mem_cons.mpr ⟨?_, List.forall_mem_cons.mpr ⟨?_, List.forall_mem_cons.mpr ⟨?_, fun _ h => absurd h List.not_mem_nil⟩⟩⟩⟩
    · refine J_aload_n rfl rfl (show Dc Y_X3_suits 32 (.aload_n 3) 1 33 from ⟨by decide +kernel, rfl⟩) ?_
      refine J_iload_n rfl rfl (show Dc Y_X3_suits 33 (.iload_n 1) 1 34 from ⟨by decide +kernel, rfl⟩) ?_
      refine J_callVi (fun r => r) (fun _ => g) (show Dc Y_X3_suits 34 (.invokevirtual 26) 3 37 from ⟨by decide +kernel, rfl⟩) w_m_RX3_26 w_in_X10_placeOf rfl w_se_X10_placeOf w_cw_X10_placeOf (c_X10_placeOf N x3 x1 g) rfl rfl (by decide) (Nat.le_of_ble_eq_true rfl) (by decide) (by decide) (fun v1 => ?_)
      refine J_iconst (-1 : Int32) rfl (show Dc Y_X3_suits 37 (.iconst (-1)) 1 38 from ⟨by decide +kernel, rfl⟩) ?_
      refine J_icmp_eq (tg := 45) (show Dc Y_X3_suits 38 (.if_icmp .eq 7) 3 41 from ⟨by decide +kernel, rfl⟩) (by decide) (fun h => ?_) (fun h => ?_)
      · refine J_iconst (0 : Int32) rfl (show Dc Y_X3_suits 45 (.iconst 0) 1 46 from ⟨by decide +kernel, rfl⟩) ?_
        refine J_mask [false, false, false, false] ?_
        exact j_X3_suits_46 N (0 : Int32) g h0
      · refine J_iconst (1 : Int32) rfl (show Dc Y_X3_suits 41 (.iconst 1) 1 42 from ⟨by decide +kernel, rfl⟩) ?_
        refine J_goto (tg := 46) (show Dc Y_X3_suits 42 (.goto 4) 3 45 from ⟨by decide +kernel, rfl⟩) (by decide) ?_
        refine J_mask [false, false, false, false] ?_
        exact j_X3_suits_46 N (1 : Int32) g h0
    · refine J_aload_n rfl rfl (show Dc Y_X3_suits 47 (.aload_n 3) 1 48 from ⟨by decide +kernel, rfl⟩) ?_
      refine J_iload_n rfl rfl (show Dc Y_X3_suits 48 (.iload_n 1) 1 49 from ⟨by decide +kernel, rfl⟩) ?_
      refine J_callVi (fun r => r) (fun _ => g) (show Dc Y_X3_suits 49 (.invokevirtual 26) 3 52 from ⟨by decide +kernel, rfl⟩) w_m_RX3_26 w_in_X10_placeOf rfl w_se_X10_placeOf w_cw_X10_placeOf (c_X10_placeOf N x3 x1 g) rfl rfl (by decide) (Nat.le_of_ble_eq_true rfl) (by decide) (by decide) (fun v2 => ?_)
      refine J_iconst (-1 : Int32) rfl (show Dc Y_X3_suits 52 (.iconst (-1)) 1 53 from ⟨by decide +kernel, rfl⟩) ?_
      refine J_icmp_ne (tg := 60) (show Dc Y_X3_suits 53 (.if_icmp .ne 7) 3 56 from ⟨by decide +kernel, rfl⟩) (by decide) (fun h => ?_) (fun h => ?_)
      · refine J_iconst (0 : Int32) rfl (show Dc Y_X3_suits 60 (.iconst 0) 1 61 from ⟨by decide +kernel, rfl⟩) ?_
        refine J_mask [false, false, false, false] ?_
        exact j_X3_suits_61 N (0 : Int32) g h0
      · refine J_iconst (1 : Int32) rfl (show Dc Y_X3_suits 56 (.iconst 1) 1 57 from ⟨by decide +kernel, rfl⟩) ?_
        refine J_goto (tg := 61) (show Dc Y_X3_suits 57 (.goto 4) 3 60 from ⟨by decide +kernel, rfl⟩) (by decide) ?_
        refine J_mask [false, false, false, false] ?_
        exact j_X3_suits_61 N (1 : Int32) g h0
    · refine J_aload_n rfl rfl (show Dc Y_X3_suits 62 (.aload_n 2) 1 63 from ⟨by decide +kernel, rfl⟩) ?_
      refine J_getI (show Dc Y_X3_suits 63 (.getfield 32) 3 66 from ⟨by decide +kernel, rfl⟩) w_f_RX3_32 rfl (fun v3 => ?_)
      refine J_iload_n rfl rfl (show Dc Y_X3_suits 66 (.iload_n 1) 1 67 from ⟨by decide +kernel, rfl⟩) ?_
      refine J_icmp_ne (tg := 74) (show Dc Y_X3_suits 67 (.if_icmp .ne 7) 3 70 from ⟨by decide +kernel, rfl⟩) (by decide) (fun h => ?_) (fun h => ?_)
      · refine J_iconst (0 : Int32) rfl (show Dc Y_X3_suits 74 (.iconst 0) 1 75 from ⟨by decide +kernel, rfl⟩) ?_
        refine J_mask [false, false, false, false] ?_
        exact j_X3_suits_75 N (0 : Int32) g h0
      · refine J_iconst (1 : Int32) rfl (show Dc Y_X3_suits 70 (.iconst 1) 1 71 from ⟨by decide +kernel, rfl⟩) ?_
        refine J_goto (tg := 75) (show Dc Y_X3_suits 71 (.goto 4) 3 74 from ⟨by decide +kernel, rfl⟩) (by decide) ?_
        refine J_mask [false, false, false, false] ?_
        exact j_X3_suits_75 N (1 : Int32) g h0
    · refine J_aload_n rfl rfl (show Dc Y_X3_suits 76 (.aload_n 2) 1 77 from ⟨by decide +kernel, rfl⟩) ?_
      refine J_getI (show Dc Y_X3_suits 77 (.getfield 37) 3 80 from ⟨by decide +kernel, rfl⟩) w_f_RX3_37 rfl (fun v4 => ?_)
      refine J_iload_n rfl rfl (show Dc Y_X3_suits 80 (.iload_n 1) 1 81 from ⟨by decide +kernel, rfl⟩) ?_
      refine J_icmp_lt (tg := 88) (show Dc Y_X3_suits 81 (.if_icmp .lt 7) 3 84 from ⟨by decide +kernel, rfl⟩) (by decide) (fun h => ?_) (fun h => ?_)
      · refine J_iconst (0 : Int32) rfl (show Dc Y_X3_suits 88 (.iconst 0) 1 89 from ⟨by decide +kernel, rfl⟩) ?_
        refine J_mask [false, false, false, false] ?_
        exact j_X3_suits_89 N (0 : Int32) g h0
      · refine J_iconst (1 : Int32) rfl (show Dc Y_X3_suits 84 (.iconst 1) 1 85 from ⟨by decide +kernel, rfl⟩) ?_
        refine J_goto (tg := 89) (show Dc Y_X3_suits 85 (.goto 4) 3 88 from ⟨by decide +kernel, rfl⟩) (by decide) ?_
        refine J_mask [false, false, false, false] ?_
        exact j_X3_suits_89 N (1 : Int32) g h0
  · refine J_aload_n rfl rfl (show Dc Y_X3_suits 90 (.aload_n 3) 1 91 from ⟨by decide +kernel, rfl⟩) ?_
    refine J_iconst (0 : Int32) rfl (show Dc Y_X3_suits 91 (.iconst 0) 1 92 from ⟨by decide +kernel, rfl⟩) ?_
    refine J_callVi (fun r => r) (fun _ => g) (show Dc Y_X3_suits 92 (.invokevirtual 40) 3 95 from ⟨by decide +kernel, rfl⟩) w_m_RX3_40 w_in_X10_at rfl w_se_X10_at w_cw_X10_at (c_X10_at x3 (0 : Int32) g) rfl rfl (by decide) (Nat.le_of_ble_eq_true rfl) (by decide) (by decide) (fun v5 => ?_)
    refine J_iload_n rfl rfl (show Dc Y_X3_suits 95 (.iload_n 1) 1 96 from ⟨by decide +kernel, rfl⟩) ?_
    refine J_icmp_ne (tg := 103) (show Dc Y_X3_suits 96 (.if_icmp .ne 7) 3 99 from ⟨by decide +kernel, rfl⟩) (by decide) (fun h => ?_) (fun h => ?_)
    · refine J_iconst (0 : Int32) rfl (show Dc Y_X3_suits 103 (.iconst 0) 1 104 from ⟨by decide +kernel, rfl⟩) ?_
      refine J_mask [false, false, false, false] ?_
      exact j_X3_suits_104 N (0 : Int32) g h0
    · refine J_iconst (1 : Int32) rfl (show Dc Y_X3_suits 99 (.iconst 1) 1 100 from ⟨by decide +kernel, rfl⟩) ?_
      refine J_goto (tg := 104) (show Dc Y_X3_suits 100 (.goto 4) 3 103 from ⟨by decide +kernel, rfl⟩) (by decide) ?_
      refine J_mask [false, false, false, false] ?_
      exact j_X3_suits_104 N (1 : Int32) g h0

theorem c_X3_suits {l : Launch} {D : ZD} {B0 : Nat} (N : Nat) (x0 : Int32) (x1 : Int32) (x2 : Nat) (x3 : Nat) (g : ZS) : ∀ r, f_X3_suits N x0 x1 x2 x3 g = some r → zCt l D B0 yX3_suits Y_X3_suits [.int x0, .int x1, .ref x2, .ref x3] g (some (.int r)) g :=
  zCt_ofF (vo := fun r => some (.int r)) (so := fun _ => g) (by decide +kernel) rfl (fun h => by cases h) rfl (Nat.le_of_ble_eq_true rfl) (fun X => j_X3_suits N x0 x1 x2 x3 g (fun _ h => h))

theorem j_X3_suit_2 {X : ZX} (N : Nat) (x0 : Nat) (x1 : Nat) (x2 : Nat) (x3 : Int32)   (g : ZS) {K : ((Int32) ⊕ Int32) → Prop} (h0 : ∀ v, K (.inr v) → xK X (some (.int v)) g) (hL2 : ∀ s, K (.inl s) → zG Y_X3_suit X 0 0 2 [some (.ref x0), some (.ref x1), some (.ref x2), some (.int s)] [] g) : J Y_X3_suit X 0 0 2 [some (.ref x0), some (.ref x1), some (.ref x2), some (.int x3)] [] g (f_X3_suit_2 N x0 x1 x2 x3 g) K := by
  unfold f_X3_suit_2
  refine J_iload_n rfl rfl (show Dc Y_X3_suit 2 (.iload_n 3) 1 3 from ⟨by decide +kernel, rfl⟩) ?_
  refine J_aload_n rfl rfl (show Dc Y_X3_suit 3 (.aload_n 0) 1 4 from ⟨by decide +kernel, rfl⟩) ?_
  refine J_getI (show Dc Y_X3_suit 4 (.getfield 18) 3 7 from ⟨by decide +kernel, rfl⟩) w_f_RX3_18 rfl (fun v1 => ?_)
  refine J_icmp_ge (tg := 38) (show Dc Y_X3_suit 7 (.if_icmp .ge 31) 3 10 from ⟨by decide +kernel, rfl⟩) (by decide) (fun h => ?_) (fun h => ?_)
  · refine J_map (f := Sum.inr) (fun _ h => h) ?_
    refine J_iconst (1 : Int32) rfl (show Dc Y_X3_suit 38 (.iconst 1) 1 39 from ⟨by decide +kernel, rfl⟩) ?_
    exact J_retz rfl (show Dc Y_X3_suit 39 (.ireturn) 1 40 from ⟨by decide +kernel, rfl⟩) rfl (h0 _) (by decide) (by decide)
  · refine J_aload_n rfl rfl (show Dc Y_X3_suit 10 (.aload_n 0) 1 11 from ⟨by decide +kernel, rfl⟩) ?_
    refine J_getR (show Dc Y_X3_suit 11 (.getfield 9) 3 14 from ⟨by decide +kernel, rfl⟩) w_f_RX3_9 rfl (fun v2 => ?_)
    refine J_iload_n rfl rfl (show Dc Y_X3_suit 14 (.iload_n 3) 1 15 from ⟨by decide +kernel, rfl⟩) ?_
    refine J_iald (show Dc Y_X3_suit 15 (.iaload) 1 16 from ⟨by decide +kernel, rfl⟩) (fun v3 => ?_)
    refine J_aload_n rfl rfl (show Dc Y_X3_suit 16 (.aload_n 0) 1 17 from ⟨by decide +kernel, rfl⟩) ?_
    refine J_getR (show Dc Y_X3_suit 17 (.getfield 15) 3 20 from ⟨by decide +kernel, rfl⟩) w_f_RX3_15 rfl (fun v4 => ?_)
    refine J_iload_n rfl rfl (show Dc Y_X3_suit 20 (.iload_n 3) 1 21 from ⟨by decide +kernel, rfl⟩) ?_
    refine J_iald (show Dc Y_X3_suit 21 (.iaload) 1 22 from ⟨by decide +kernel, rfl⟩) (fun v5 => ?_)
    refine J_aload_n rfl rfl (show Dc Y_X3_suit 22 (.aload_n 1) 1 23 from ⟨by decide +kernel, rfl⟩) ?_
    refine J_aload_n rfl rfl (show Dc Y_X3_suit 23 (.aload_n 2) 1 24 from ⟨by decide +kernel, rfl⟩) ?_
    refine J_callSi (fun r => r) (fun _ => g) (show Dc Y_X3_suit 24 (.invokestatic 22) 3 27 from ⟨by decide +kernel, rfl⟩) w_m_RX3_22 w_st_X3_suits w_cw_X3_suits (c_X3_suits N v3 v5 x1 x2 g) rfl rfl (by decide) (Nat.le_of_ble_eq_true rfl) (by decide) (by decide) (fun v6 => ?_)
    refine J_if_ne (tg := 32) (show Dc Y_X3_suit 27 (.ifCond .ne 5) 3 30 from ⟨by decide +kernel, rfl⟩) (by decide) (fun h => ?_) (fun h => ?_)
    · refine J_iinc (1 : Int32) [some (.ref x0), some (.ref x1), some (.ref x2), some (.int (x3 + (1 : Int32)))] (show Dc Y_X3_suit 32 (.iinc 3 1) 3 35 from ⟨by decide +kernel, rfl⟩) rfl rfl (by decide) rfl rfl ?_
      refine J_goto (tg := 2) (show Dc Y_X3_suit 35 (.goto (-33)) 3 38 from ⟨by decide +kernel, rfl⟩) (by decide) ?_
      exact J_leaf (fun h => hL2 (x3 + (1 : Int32)) h)
    · refine J_map (f := Sum.inr) (fun _ h => h) ?_
      refine J_iconst (0 : Int32) rfl (show Dc Y_X3_suit 30 (.iconst 0) 1 31 from ⟨by decide +kernel, rfl⟩) ?_
      exact J_retz rfl (show Dc Y_X3_suit 31 (.ireturn) 1 32 from ⟨by decide +kernel, rfl⟩) rfl (h0 _) (by decide) (by decide)

theorem j_X3_suit {X : ZX} (N : Nat) (x0 : Nat) (x1 : Nat) (x2 : Nat)   (g : ZS) {K : Int32 → Prop} (h0 : ∀ v, K v → xK X (some (.int v)) g) : J Y_X3_suit X 0 0 0 [some (.ref x0), some (.ref x1), some (.ref x2), none] [] g (f_X3_suit N x0 x1 x2 g) K := by
  unfold f_X3_suit
  refine J_iconst (0 : Int32) rfl (show Dc Y_X3_suit 0 (.iconst 0) 1 1 from ⟨by decide +kernel, rfl⟩) ?_
  refine J_istore_n [some (.ref x0), some (.ref x1), some (.ref x2), some (.int (0 : Int32))] (show Dc Y_X3_suit 1 (.istore_n 3) 1 2 from ⟨by decide +kernel, rfl⟩) rfl (by decide) rfl rfl ?_
  exact J_loop (X := X) (K := K) (uc := fun _ => 0) (us := fun _ => 0) (lf := fun s => [some (.ref x0), some (.ref x1), some (.ref x2), some (.int s)]) (gf := fun s => g) (fun s => j_X3_suit_2 (K := zKl Y_X3_suit X 2 (fun _ => 0) (fun _ => 0) (fun s => [some (.ref x0), some (.ref x1), some (.ref x2), some (.int s)]) (fun s => g) K) N x0 x1 x2 s g h0 (fun s h => h)) N (0 : Int32)

theorem c_X3_suit {l : Launch} {D : ZD} {B0 : Nat} (N : Nat) (x0 : Nat) (x1 : Nat) (x2 : Nat) (g : ZS) : ∀ r, f_X3_suit N x0 x1 x2 g = some r → zCt l D B0 yX3_suit Y_X3_suit [.ref x0, .ref x1, .ref x2] g (some (.int r)) g :=
  zCt_ofF (vo := fun r => some (.int r)) (so := fun _ => g) (by decide +kernel) rfl (fun h => by cases h) rfl (Nat.le_of_ble_eq_true rfl) (fun X => j_X3_suit N x0 x1 x2 g (fun _ h => h))

theorem j_X11_fittingParrots_68 {X : ZX} (N : Nat) (x0 : Nat) (x1 : Int32) (x2 : Int32)   (g : ZS) {K : ((Int32 × Int32 × ZS) ⊕ (Int32 × ZS)) → Prop} (h0 : ∀ v g, K (.inr (v, g)) → xK X (some (.int v)) g) (hL4 : ∀ s, K (.inl s) → zG Y_X11_fittingParrots X 0 0 4 [some (.ref x0), some (.int s.1), some (.int s.2.1)] [] s.2.2) : J Y_X11_fittingParrots X 0 0 68 [some (.ref x0), some (.int x1), some (.int x2)] [] g (f_X11_fittingParrots_68 N x0 x1 x2 g) K := by
  unfold f_X11_fittingParrots_68
  refine J_iinc (1 : Int32) [some (.ref x0), some (.int x1), some (.int (x2 + (1 : Int32)))] (show Dc Y_X11_fittingParrots 68 (.iinc 2 1) 3 71 from ⟨by decide +kernel, rfl⟩) rfl rfl (by decide) rfl rfl ?_
  refine J_goto (tg := 4) (show Dc Y_X11_fittingParrots 71 (.goto (-67)) 3 74 from ⟨by decide +kernel, rfl⟩) (by decide) ?_
  exact J_leaf (fun h => hL4 (x1, x2 + (1 : Int32), g) h)

theorem j_X11_fittingParrots_4 {X : ZX} (N : Nat) (x0 : Nat) (x1 : Int32) (x2 : Int32)   (g : ZS) {K : ((Int32 × Int32 × ZS) ⊕ (Int32 × ZS)) → Prop} (h0 : ∀ v g, K (.inr (v, g)) → xK X (some (.int v)) g) (hL4 : ∀ s, K (.inl s) → zG Y_X11_fittingParrots X 0 0 4 [some (.ref x0), some (.int s.1), some (.int s.2.1)] [] s.2.2) : J Y_X11_fittingParrots X 0 0 4 [some (.ref x0), some (.int x1), some (.int x2)] [] g (f_X11_fittingParrots_4 N x0 x1 x2 g) K := by
  unfold f_X11_fittingParrots_4
  refine J_iload_n rfl rfl (show Dc Y_X11_fittingParrots 4 (.iload_n 2) 1 5 from ⟨by decide +kernel, rfl⟩) ?_
  refine J_aload_n rfl rfl (show Dc Y_X11_fittingParrots 5 (.aload_n 0) 1 6 from ⟨by decide +kernel, rfl⟩) ?_
  refine J_getR (show Dc Y_X11_fittingParrots 6 (.getfield 47) 3 9 from ⟨by decide +kernel, rfl⟩) w_f_RX11_47 rfl (fun v1 => ?_)
  refine J_getI (show Dc Y_X11_fittingParrots 9 (.getfield 146) 3 12 from ⟨by decide +kernel, rfl⟩) w_f_RX11_146 rfl (fun v2 => ?_)
  refine J_icmp_ge (tg := 74) (show Dc Y_X11_fittingParrots 12 (.if_icmp .ge 62) 3 15 from ⟨by decide +kernel, rfl⟩) (by decide) (fun h => ?_) (fun h => ?_)
  · refine J_map (f := Sum.inr) (fun _ h => h) ?_
    refine J_iload_n rfl rfl (show Dc Y_X11_fittingParrots 74 (.iload_n 1) 1 75 from ⟨by decide +kernel, rfl⟩) ?_
    exact J_reti (show Dc Y_X11_fittingParrots 75 (.ireturn) 1 76 from ⟨by decide +kernel, rfl⟩) rfl (h0 _ _) (by decide) (by decide)
  · refine J_aload_n rfl rfl (show Dc Y_X11_fittingParrots 15 (.aload_n 0) 1 16 from ⟨by decide +kernel, rfl⟩) ?_
    refine J_getR (show Dc Y_X11_fittingParrots 16 (.getfield 79) 3 19 from ⟨by decide +kernel, rfl⟩) w_f_RX11_79 rfl (fun v3 => ?_)
    refine J_aload_n rfl rfl (show Dc Y_X11_fittingParrots 19 (.aload_n 0) 1 20 from ⟨by decide +kernel, rfl⟩) ?_
    refine J_getR (show Dc Y_X11_fittingParrots 20 (.getfield 47) 3 23 from ⟨by decide +kernel, rfl⟩) w_f_RX11_47 rfl (fun v4 => ?_)
    refine J_getR (show Dc Y_X11_fittingParrots 23 (.getfield 171) 3 26 from ⟨by decide +kernel, rfl⟩) w_f_RX11_171 rfl (fun v5 => ?_)
    refine J_iload_n rfl rfl (show Dc Y_X11_fittingParrots 26 (.iload_n 2) 1 27 from ⟨by decide +kernel, rfl⟩) ?_
    refine J_aald (kd := 25) (by decide) (by decide) (show Dc Y_X11_fittingParrots 27 (.aaload) 1 28 from ⟨by decide +kernel, rfl⟩) (fun v6 => ?_)
    refine J_aload_n rfl rfl (show Dc Y_X11_fittingParrots 28 (.aload_n 0) 1 29 from ⟨by decide +kernel, rfl⟩) ?_
    refine J_getR (show Dc Y_X11_fittingParrots 29 (.getfield 37) 3 32 from ⟨by decide +kernel, rfl⟩) w_f_RX11_37 rfl (fun v7 => ?_)
    refine J_aload_n rfl rfl (show Dc Y_X11_fittingParrots 32 (.aload_n 0) 1 33 from ⟨by decide +kernel, rfl⟩) ?_
    refine J_getR (show Dc Y_X11_fittingParrots 33 (.getfield 30) 3 36 from ⟨by decide +kernel, rfl⟩) w_f_RX11_30 rfl (fun v8 => ?_)
    refine J_callVv (fun r => r) (show Dc Y_X11_fittingParrots 36 (.invokevirtual 289) 3 39 from ⟨by decide +kernel, rfl⟩) w_m_RX11_289 w_in_X10_follow rfl w_se_X10_follow w_cw_X10_follow (c_X10_follow N v3 v6 v7 v8 g) rfl rfl (by decide) (Nat.le_of_ble_eq_true rfl) (by decide) (by decide) (fun g9 => ?_)
    refine J_aload_n rfl rfl (show Dc Y_X11_fittingParrots 39 (.aload_n 0) 1 40 from ⟨by decide +kernel, rfl⟩) ?_
    refine J_getR (show Dc Y_X11_fittingParrots 40 (.getfield 96) 3 43 from ⟨by decide +kernel, rfl⟩) w_f_RX11_96 rfl (fun v10 => ?_)
    refine J_aload_n rfl rfl (show Dc Y_X11_fittingParrots 43 (.aload_n 0) 1 44 from ⟨by decide +kernel, rfl⟩) ?_
    refine J_getR (show Dc Y_X11_fittingParrots 44 (.getfield 47) 3 47 from ⟨by decide +kernel, rfl⟩) w_f_RX11_47 rfl (fun v11 => ?_)
    refine J_getR (show Dc Y_X11_fittingParrots 47 (.getfield 171) 3 50 from ⟨by decide +kernel, rfl⟩) w_f_RX11_171 rfl (fun v12 => ?_)
    refine J_iload_n rfl rfl (show Dc Y_X11_fittingParrots 50 (.iload_n 2) 1 51 from ⟨by decide +kernel, rfl⟩) ?_
    refine J_aald (kd := 25) (by decide) (by decide) (show Dc Y_X11_fittingParrots 51 (.aaload) 1 52 from ⟨by decide +kernel, rfl⟩) (fun v13 => ?_)
    refine J_aload_n rfl rfl (show Dc Y_X11_fittingParrots 52 (.aload_n 0) 1 53 from ⟨by decide +kernel, rfl⟩) ?_
    refine J_getR (show Dc Y_X11_fittingParrots 53 (.getfield 79) 3 56 from ⟨by decide +kernel, rfl⟩) w_f_RX11_79 rfl (fun v14 => ?_)
    refine J_callVi (fun r => r) (fun _ => g9) (show Dc Y_X11_fittingParrots 56 (.invokevirtual 430) 3 59 from ⟨by decide +kernel, rfl⟩) w_m_RX11_430 w_in_X3_suit rfl w_se_X3_suit w_cw_X3_suit (c_X3_suit N v10 v13 v14 g9) rfl rfl (by decide) (Nat.le_of_ble_eq_true rfl) (by decide) (by decide) (fun v15 => ?_)
    refine J_if_eq (tg := 68) (show Dc Y_X11_fittingParrots 59 (.ifCond .eq 9) 3 62 from ⟨by decide +kernel, rfl⟩) (by decide) (fun h => ?_) (fun h => ?_)
    · exact j_X11_fittingParrots_68 N x0 x1 x2 g9 h0 hL4
    · refine J_iload_n rfl rfl (show Dc Y_X11_fittingParrots 62 (.iload_n 1) 1 63 from ⟨by decide +kernel, rfl⟩) ?_
      refine J_iconst (1 : Int32) rfl (show Dc Y_X11_fittingParrots 63 (.iconst 1) 1 64 from ⟨by decide +kernel, rfl⟩) ?_
      refine J_iload_n rfl rfl (show Dc Y_X11_fittingParrots 64 (.iload_n 2) 1 65 from ⟨by decide +kernel, rfl⟩) ?_
      refine J_ishl (show Dc Y_X11_fittingParrots 65 (.ishl) 1 66 from ⟨by decide +kernel, rfl⟩) ?_
      refine J_ior (show Dc Y_X11_fittingParrots 66 (.ior) 1 67 from ⟨by decide +kernel, rfl⟩) ?_
      refine J_istore_n [some (.ref x0), some (.int (x1 ||| ((1 : Int32) <<< (x2 &&& 31)))), some (.int x2)] (show Dc Y_X11_fittingParrots 67 (.istore_n 1) 1 68 from ⟨by decide +kernel, rfl⟩) rfl (by decide) rfl rfl ?_
      exact j_X11_fittingParrots_68 N x0 (x1 ||| ((1 : Int32) <<< (x2 &&& 31))) x2 g9 h0 hL4

theorem j_X11_fittingParrots {X : ZX} (N : Nat) (x0 : Nat)   (g : ZS) {K : (Int32 × ZS) → Prop} (h0 : ∀ v g, K (v, g) → xK X (some (.int v)) g) : J Y_X11_fittingParrots X 0 0 0 [some (.ref x0), none, none] [] g (f_X11_fittingParrots N x0 g) K := by
  unfold f_X11_fittingParrots
  refine J_iconst (0 : Int32) rfl (show Dc Y_X11_fittingParrots 0 (.iconst 0) 1 1 from ⟨by decide +kernel, rfl⟩) ?_
  refine J_istore_n [some (.ref x0), some (.int (0 : Int32)), none] (show Dc Y_X11_fittingParrots 1 (.istore_n 1) 1 2 from ⟨by decide +kernel, rfl⟩) rfl (by decide) rfl rfl ?_
  refine J_iconst (0 : Int32) rfl (show Dc Y_X11_fittingParrots 2 (.iconst 0) 1 3 from ⟨by decide +kernel, rfl⟩) ?_
  refine J_istore_n [some (.ref x0), some (.int (0 : Int32)), some (.int (0 : Int32))] (show Dc Y_X11_fittingParrots 3 (.istore_n 2) 1 4 from ⟨by decide +kernel, rfl⟩) rfl (by decide) rfl rfl ?_
  exact J_loop (X := X) (K := K) (uc := fun _ => 0) (us := fun _ => 0) (lf := fun s => [some (.ref x0), some (.int s.1), some (.int s.2.1)]) (gf := fun s => s.2.2) (fun s => j_X11_fittingParrots_4 (K := zKl Y_X11_fittingParrots X 4 (fun _ => 0) (fun _ => 0) (fun s => [some (.ref x0), some (.int s.1), some (.int s.2.1)]) (fun s => s.2.2) K) N x0 s.1 s.2.1 s.2.2 h0 (fun s h => h)) N ((0 : Int32), (0 : Int32), g)

theorem c_X11_fittingParrots {l : Launch} {D : ZD} {B0 : Nat} (N : Nat) (x0 : Nat) (g : ZS) : ∀ r, f_X11_fittingParrots N x0 g = some r → zCt l D B0 yX11_fittingParrots Y_X11_fittingParrots [.ref x0] g (some (.int r.1)) r.2 :=
  zCt_ofF (vo := fun r => some (.int r.1)) (so := fun r => r.2) (by decide +kernel) rfl (fun h => by cases h) rfl (Nat.le_of_ble_eq_true rfl) (fun X => j_X11_fittingParrots N x0 g (fun _ _ h => h))

theorem j_X11_fits {X : ZX} (N : Nat) (x0 : Nat)   (g : ZS) {K : (Int32 × ZS) → Prop} (h0 : ∀ v g, K (v, g) → xK X (some (.int v)) g) : J Y_X11_fits X 0 0 0 [some (.ref x0), none] [] g (f_X11_fits N x0 g) K := by
  unfold f_X11_fits
  refine J_aload_n rfl rfl (show Dc Y_X11_fits 0 (.aload_n 0) 1 1 from ⟨by decide +kernel, rfl⟩) ?_
  refine J_callVi (fun r => r.1) (fun r => r.2) (show Dc Y_X11_fits 1 (.invokevirtual 427) 3 4 from ⟨by decide +kernel, rfl⟩) w_m_RX11_427 w_in_X11_fittingParrots rfl w_se_X11_fittingParrots w_cw_X11_fittingParrots (c_X11_fittingParrots N x0 g) rfl rfl (by decide) (Nat.le_of_ble_eq_true rfl) (by decide) (by decide) (fun r1 => ?_)
  refine J_istore_n [some (.ref x0), some (.int r1.1)] (show Dc Y_X11_fits 4 (.istore_n 1) 1 5 from ⟨by decide +kernel, rfl⟩) rfl (by decide) rfl rfl ?_
  refine J_aload_n rfl rfl (show Dc Y_X11_fits 5 (.aload_n 0) 1 6 from ⟨by decide +kernel, rfl⟩) ?_
  refine J_getR (show Dc Y_X11_fits 6 (.getfield 19) 3 9 from ⟨by decide +kernel, rfl⟩) w_f_RX11_19 rfl (fun v2 => ?_)
  refine J_iload_n rfl rfl (show Dc Y_X11_fits 9 (.iload_n 1) 1 10 from ⟨by decide +kernel, rfl⟩) ?_
  refine J_callSi (fun r => r) (fun _ => r1.2) (show Dc Y_X11_fits 10 (.invokestatic 255) 3 13 from ⟨by decide +kernel, rfl⟩) w_m_RX11_255 w_st_J6_bitCount_0f7a4 w_cw_J6_bitCount_0f7a4 (c_J6_bitCount_0f7a4 r1.1 r1.2) rfl rfl (by decide) (Nat.le_of_ble_eq_true rfl) (by decide) (by decide) (fun v3 => ?_)
  refine J_i2l (show Dc Y_X11_fits 13 (.i2l) 1 14 from ⟨by decide +kernel, rfl⟩) ?_
  refine J_callVv (fun r => r) (show Dc Y_X11_fits 14 (.invokevirtual 339) 3 17 from ⟨by decide +kernel, rfl⟩) w_m_RX11_339 w_in_X9_only rfl w_se_X9_only w_cw_X9_only (c_X9_only v2 v3.toInt64 r1.2) rfl rfl (by decide) (Nat.le_of_ble_eq_true rfl) (by decide) (by decide) (fun g4 => ?_)
  refine J_iload_n rfl rfl (show Dc Y_X11_fits 17 (.iload_n 1) 1 18 from ⟨by decide +kernel, rfl⟩) ?_
  exact J_reti (show Dc Y_X11_fits 18 (.ireturn) 1 19 from ⟨by decide +kernel, rfl⟩) rfl (h0 _ _) (by decide) (by decide)

theorem c_X11_fits {l : Launch} {D : ZD} {B0 : Nat} (N : Nat) (x0 : Nat) (g : ZS) : ∀ r, f_X11_fits N x0 g = some r → zCt l D B0 yX11_fits Y_X11_fits [.ref x0] g (some (.int r.1)) r.2 :=
  zCt_ofF (vo := fun r => some (.int r.1)) (so := fun r => r.2) (by decide +kernel) rfl (fun h => by cases h) rfl (Nat.le_of_ble_eq_true rfl) (fun X => j_X11_fits N x0 g (fun _ _ h => h))

theorem j_X11_sayersOf_4 {X : ZX} (N : Nat) (x0 : Nat) (x1 : Int32) (x2 : Int32) (x3 : Int32)   (g : ZS) {K : ((Int32 × Int32) ⊕ Int32) → Prop} (h0 : ∀ v, K (.inr v) → xK X (some (.int v)) g) (hL4 : ∀ s, K (.inl s) → zG Y_X11_sayersOf X 0 0 4 [some (.ref x0), some (.int x1), some (.int s.1), some (.int s.2)] [] g) : J Y_X11_sayersOf X 0 0 4 [some (.ref x0), some (.int x1), some (.int x2), some (.int x3)] [] g (f_X11_sayersOf_4 N x0 x1 x2 x3 g) K := by
  unfold f_X11_sayersOf_4
  refine J_iload_n rfl rfl (show Dc Y_X11_sayersOf 4 (.iload_n 3) 1 5 from ⟨by decide +kernel, rfl⟩) ?_
  refine J_aload_n rfl rfl (show Dc Y_X11_sayersOf 5 (.aload_n 0) 1 6 from ⟨by decide +kernel, rfl⟩) ?_
  refine J_getR (show Dc Y_X11_sayersOf 6 (.getfield 47) 3 9 from ⟨by decide +kernel, rfl⟩) w_f_RX11_47 rfl (fun v1 => ?_)
  refine J_getI (show Dc Y_X11_sayersOf 9 (.getfield 146) 3 12 from ⟨by decide +kernel, rfl⟩) w_f_RX11_146 rfl (fun v2 => ?_)
  refine J_icmp_ge (tg := 36) (show Dc Y_X11_sayersOf 12 (.if_icmp .ge 24) 3 15 from ⟨by decide +kernel, rfl⟩) (by decide) (fun h => ?_) (fun h => ?_)
  · refine J_map (f := Sum.inr) (fun _ h => h) ?_
    refine J_iload_n rfl rfl (show Dc Y_X11_sayersOf 36 (.iload_n 2) 1 37 from ⟨by decide +kernel, rfl⟩) ?_
    exact J_reti (show Dc Y_X11_sayersOf 37 (.ireturn) 1 38 from ⟨by decide +kernel, rfl⟩) rfl (h0 _) (by decide) (by decide)
  · refine J_iload_n rfl rfl (show Dc Y_X11_sayersOf 15 (.iload_n 2) 1 16 from ⟨by decide +kernel, rfl⟩) ?_
    refine J_aload_n rfl rfl (show Dc Y_X11_sayersOf 16 (.aload_n 0) 1 17 from ⟨by decide +kernel, rfl⟩) ?_
    refine J_getR (show Dc Y_X11_sayersOf 17 (.getfield 100) 3 20 from ⟨by decide +kernel, rfl⟩) w_f_RX11_100 rfl (fun v3 => ?_)
    refine J_iload_n rfl rfl (show Dc Y_X11_sayersOf 20 (.iload_n 3) 1 21 from ⟨by decide +kernel, rfl⟩) ?_
    refine J_iald (show Dc Y_X11_sayersOf 21 (.iaload) 1 22 from ⟨by decide +kernel, rfl⟩) (fun v4 => ?_)
    refine J_iload_n rfl rfl (show Dc Y_X11_sayersOf 22 (.iload_n 1) 1 23 from ⟨by decide +kernel, rfl⟩) ?_
    refine J_ishr (show Dc Y_X11_sayersOf 23 (.ishr) 1 24 from ⟨by decide +kernel, rfl⟩) ?_
    refine J_iconst (1 : Int32) rfl (show Dc Y_X11_sayersOf 24 (.iconst 1) 1 25 from ⟨by decide +kernel, rfl⟩) ?_
    refine J_iand (show Dc Y_X11_sayersOf 25 (.iand) 1 26 from ⟨by decide +kernel, rfl⟩) ?_
    refine J_iload_n rfl rfl (show Dc Y_X11_sayersOf 26 (.iload_n 3) 1 27 from ⟨by decide +kernel, rfl⟩) ?_
    refine J_ishl (show Dc Y_X11_sayersOf 27 (.ishl) 1 28 from ⟨by decide +kernel, rfl⟩) ?_
    refine J_ior (show Dc Y_X11_sayersOf 28 (.ior) 1 29 from ⟨by decide +kernel, rfl⟩) ?_
    refine J_istore_n [some (.ref x0), some (.int x1), some (.int (x2 ||| (((v4 >>> (x1 &&& 31)) &&& (1 : Int32)) <<< (x3 &&& 31)))), some (.int x3)] (show Dc Y_X11_sayersOf 29 (.istore_n 2) 1 30 from ⟨by decide +kernel, rfl⟩) rfl (by decide) rfl rfl ?_
    refine J_iinc (1 : Int32) [some (.ref x0), some (.int x1), some (.int (x2 ||| (((v4 >>> (x1 &&& 31)) &&& (1 : Int32)) <<< (x3 &&& 31)))), some (.int (x3 + (1 : Int32)))] (show Dc Y_X11_sayersOf 30 (.iinc 3 1) 3 33 from ⟨by decide +kernel, rfl⟩) rfl rfl (by decide) rfl rfl ?_
    refine J_goto (tg := 4) (show Dc Y_X11_sayersOf 33 (.goto (-29)) 3 36 from ⟨by decide +kernel, rfl⟩) (by decide) ?_
    exact J_leaf (fun h => hL4 (x2 ||| (((v4 >>> (x1 &&& 31)) &&& (1 : Int32)) <<< (x3 &&& 31)), x3 + (1 : Int32)) h)

theorem j_X11_sayersOf {X : ZX} (N : Nat) (x0 : Nat) (x1 : Int32)   (g : ZS) {K : Int32 → Prop} (h0 : ∀ v, K v → xK X (some (.int v)) g) : J Y_X11_sayersOf X 0 0 0 [some (.ref x0), some (.int x1), none, none] [] g (f_X11_sayersOf N x0 x1 g) K := by
  unfold f_X11_sayersOf
  refine J_iconst (0 : Int32) rfl (show Dc Y_X11_sayersOf 0 (.iconst 0) 1 1 from ⟨by decide +kernel, rfl⟩) ?_
  refine J_istore_n [some (.ref x0), some (.int x1), some (.int (0 : Int32)), none] (show Dc Y_X11_sayersOf 1 (.istore_n 2) 1 2 from ⟨by decide +kernel, rfl⟩) rfl (by decide) rfl rfl ?_
  refine J_iconst (0 : Int32) rfl (show Dc Y_X11_sayersOf 2 (.iconst 0) 1 3 from ⟨by decide +kernel, rfl⟩) ?_
  refine J_istore_n [some (.ref x0), some (.int x1), some (.int (0 : Int32)), some (.int (0 : Int32))] (show Dc Y_X11_sayersOf 3 (.istore_n 3) 1 4 from ⟨by decide +kernel, rfl⟩) rfl (by decide) rfl rfl ?_
  exact J_loop (X := X) (K := K) (uc := fun _ => 0) (us := fun _ => 0) (lf := fun s => [some (.ref x0), some (.int x1), some (.int s.1), some (.int s.2)]) (gf := fun s => g) (fun s => j_X11_sayersOf_4 (K := zKl Y_X11_sayersOf X 4 (fun _ => 0) (fun _ => 0) (fun s => [some (.ref x0), some (.int x1), some (.int s.1), some (.int s.2)]) (fun s => g) K) N x0 x1 s.1 s.2 g h0 (fun s h => h)) N ((0 : Int32), (0 : Int32))

theorem c_X11_sayersOf {l : Launch} {D : ZD} {B0 : Nat} (N : Nat) (x0 : Nat) (x1 : Int32) (g : ZS) : ∀ r, f_X11_sayersOf N x0 x1 g = some r → zCt l D B0 yX11_sayersOf Y_X11_sayersOf [.ref x0, .int x1] g (some (.int r)) g :=
  zCt_ofF (vo := fun r => some (.int r)) (so := fun _ => g) (by decide +kernel) rfl (fun h => by cases h) rfl (Nat.le_of_ble_eq_true rfl) (fun X => j_X11_sayersOf N x0 x1 g (fun _ h => h))

theorem j_X11_ask_77 {X : ZX} (N : Nat) (x0 : Nat) (x1 : Int32) (x2 : Int32) (x3 : Int32) (x4 : Int32) (x5 : Int32)   (g : ZS) {K : ((Int32 × Int32 × Int32) ⊕ (Int32 × ZS)) → Prop} (h0 : ∀ v g, K (.inr (v, g)) → xK X (some (.int v)) g) (hL32 : ∀ s, K (.inl s) → zG Y_X11_ask X 0 0 32 [some (.ref x0), some (.int x1), some (.int x2), some (.int s.1), some (.int s.2.1), some (.int s.2.2), none, none] [] g) : J Y_X11_ask X 0 0 77 [some (.ref x0), some (.int x1), some (.int x2), some (.int x3), some (.int x4), some (.int x5), none, none] [] g (f_X11_ask_77 N x0 x1 x2 x3 x4 x5 g) K := by
  unfold f_X11_ask_77
  refine J_iinc (1 : Int32) [some (.ref x0), some (.int x1), some (.int x2), some (.int x3), some (.int x4), some (.int (x5 + (1 : Int32))), none, none] (show Dc Y_X11_ask 77 (.iinc 5 1) 3 80 from ⟨by decide +kernel, rfl⟩) rfl rfl (by decide) rfl rfl ?_
  refine J_goto (tg := 32) (show Dc Y_X11_ask 80 (.goto (-48)) 3 83 from ⟨by decide +kernel, rfl⟩) (by decide) ?_
  exact J_leaf (fun h => hL32 (x3, x4, x5 + (1 : Int32)) h)

theorem j_X11_ask_32 {X : ZX} (N : Nat) (x0 : Nat) (x1 : Int32) (x2 : Int32) (x3 : Int32) (x4 : Int32) (x5 : Int32)   (g : ZS) {K : ((Int32 × Int32 × Int32) ⊕ (Int32 × ZS)) → Prop} (h0 : ∀ v g, K (.inr (v, g)) → xK X (some (.int v)) g) (hL32 : ∀ s, K (.inl s) → zG Y_X11_ask X 0 0 32 [some (.ref x0), some (.int x1), some (.int x2), some (.int s.1), some (.int s.2.1), some (.int s.2.2), none, none] [] g) : J Y_X11_ask X 0 0 32 [some (.ref x0), some (.int x1), some (.int x2), some (.int x3), some (.int x4), some (.int x5), none, none] [] g (f_X11_ask_32 N x0 x1 x2 x3 x4 x5 g) K := by
  unfold f_X11_ask_32
  refine J_iload rfl (show Dc Y_X11_ask 32 (.iload 5) 2 34 from ⟨by decide +kernel, rfl⟩) ?_
  refine J_bipush (8 : Int32) rfl (show Dc Y_X11_ask 34 (.bipush 8) 2 36 from ⟨by decide +kernel, rfl⟩) ?_
  refine J_icmp_ge (tg := 83) (show Dc Y_X11_ask 36 (.if_icmp .ge 47) 3 39 from ⟨by decide +kernel, rfl⟩) (by decide) (fun h => ?_) (fun h => ?_)
  · refine J_map (f := Sum.inr) (fun _ h => h) ?_
    refine J_aload_n rfl rfl (show Dc Y_X11_ask 83 (.aload_n 0) 1 84 from ⟨by decide +kernel, rfl⟩) ?_
    refine J_getR (show Dc Y_X11_ask 84 (.getfield 19) 3 87 from ⟨by decide +kernel, rfl⟩) w_f_RX11_19 rfl (fun v1 => ?_)
    refine J_iload rfl (show Dc Y_X11_ask 87 (.iload 4) 2 89 from ⟨by decide +kernel, rfl⟩) ?_
    refine J_i2l (show Dc Y_X11_ask 89 (.i2l) 1 90 from ⟨by decide +kernel, rfl⟩) ?_
    refine J_callVv (fun r => r) (show Dc Y_X11_ask 90 (.invokevirtual 339) 3 93 from ⟨by decide +kernel, rfl⟩) w_m_RX11_339 w_in_X9_only rfl w_se_X9_only w_cw_X9_only (c_X9_only v1 x4.toInt64 g) rfl rfl (by decide) (Nat.le_of_ble_eq_true rfl) (by decide) (by decide) (fun g2 => ?_)
    refine J_iload_n rfl rfl (show Dc Y_X11_ask 93 (.iload_n 3) 1 94 from ⟨by decide +kernel, rfl⟩) ?_
    exact J_reti (show Dc Y_X11_ask 94 (.ireturn) 1 95 from ⟨by decide +kernel, rfl⟩) rfl (h0 _ _) (by decide) (by decide)
  · refine J_iload_n rfl rfl (show Dc Y_X11_ask 39 (.iload_n 1) 1 40 from ⟨by decide +kernel, rfl⟩) ?_
    refine J_aload_n rfl rfl (show Dc Y_X11_ask 40 (.aload_n 0) 1 41 from ⟨by decide +kernel, rfl⟩) ?_
    refine J_iload rfl (show Dc Y_X11_ask 41 (.iload 5) 2 43 from ⟨by decide +kernel, rfl⟩) ?_
    refine J_callVi (fun r => r) (fun _ => g) (show Dc Y_X11_ask 43 (.invokevirtual 434) 3 46 from ⟨by decide +kernel, rfl⟩) w_m_RX11_434 w_in_X11_sayersOf rfl w_se_X11_sayersOf w_cw_X11_sayersOf (c_X11_sayersOf N x0 x5 g) rfl rfl (by decide) (Nat.le_of_ble_eq_true rfl) (by decide) (by decide) (fun v3 => ?_)
    refine J_iand (show Dc Y_X11_ask 46 (.iand) 1 47 from ⟨by decide +kernel, rfl⟩) ?_
    refine J_callSi (fun r => r) (fun _ => g) (show Dc Y_X11_ask 47 (.invokestatic 255) 3 50 from ⟨by decide +kernel, rfl⟩) w_m_RX11_255 w_st_J6_bitCount_0f7a4 w_cw_J6_bitCount_0f7a4 (c_J6_bitCount_0f7a4 (x1 &&& v3) g) rfl rfl (by decide) (Nat.le_of_ble_eq_true rfl) (by decide) (by decide) (fun v4 => ?_)
    refine J_istore [some (.ref x0), some (.int x1), some (.int x2), some (.int x3), some (.int x4), some (.int x5), some (.int v4), none] (show Dc Y_X11_ask 50 (.istore 6) 2 52 from ⟨by decide +kernel, rfl⟩) (by decide) rfl rfl ?_
    refine J_iload rfl (show Dc Y_X11_ask 52 (.iload 6) 2 54 from ⟨by decide +kernel, rfl⟩) ?_
    refine J_iload_n rfl rfl (show Dc Y_X11_ask 54 (.iload_n 2) 1 55 from ⟨by decide +kernel, rfl⟩) ?_
    refine J_iload rfl (show Dc Y_X11_ask 55 (.iload 6) 2 57 from ⟨by decide +kernel, rfl⟩) ?_
    refine J_isub (show Dc Y_X11_ask 57 (.isub) 1 58 from ⟨by decide +kernel, rfl⟩) ?_
    refine J_callSi (fun r => r) (fun _ => g) (show Dc Y_X11_ask 58 (.invokestatic 238) 3 61 from ⟨by decide +kernel, rfl⟩) w_m_RX11_238 w_st_J9_max_7cf53 w_cw_J9_max_7cf53 (c_J9_max_7cf53 v4 (x2 - v4) g) rfl rfl (by decide) (Nat.le_of_ble_eq_true rfl) (by decide) (by decide) (fun v5 => ?_)
    refine J_istore [some (.ref x0), some (.int x1), some (.int x2), some (.int x3), some (.int x4), some (.int x5), some (.int v4), some (.int v5)] (show Dc Y_X11_ask 61 (.istore 7) 2 63 from ⟨by decide +kernel, rfl⟩) (by decide) rfl rfl ?_
    refine J_iload rfl (show Dc Y_X11_ask 63 (.iload 7) 2 65 from ⟨by decide +kernel, rfl⟩) ?_
    refine J_iload rfl (show Dc Y_X11_ask 65 (.iload 4) 2 67 from ⟨by decide +kernel, rfl⟩) ?_
    refine J_icmp_ge (tg := 77) (show Dc Y_X11_ask 67 (.if_icmp .ge 10) 3 70 from ⟨by decide +kernel, rfl⟩) (by decide) (fun h => ?_) (fun h => ?_)
    · refine J_mask [true, true, true, true, true, true, false, false] ?_
      exact j_X11_ask_77 N x0 x1 x2 x3 x4 x5 g h0 hL32
    · refine J_iload rfl (show Dc Y_X11_ask 70 (.iload 7) 2 72 from ⟨by decide +kernel, rfl⟩) ?_
      refine J_istore [some (.ref x0), some (.int x1), some (.int x2), some (.int x3), some (.int v5), some (.int x5), some (.int v4), some (.int v5)] (show Dc Y_X11_ask 72 (.istore 4) 2 74 from ⟨by decide +kernel, rfl⟩) (by decide) rfl rfl ?_
      refine J_iload rfl (show Dc Y_X11_ask 74 (.iload 5) 2 76 from ⟨by decide +kernel, rfl⟩) ?_
      refine J_istore_n [some (.ref x0), some (.int x1), some (.int x2), some (.int x5), some (.int v5), some (.int x5), some (.int v4), some (.int v5)] (show Dc Y_X11_ask 76 (.istore_n 3) 1 77 from ⟨by decide +kernel, rfl⟩) rfl (by decide) rfl rfl ?_
      refine J_mask [true, true, true, true, true, true, false, false] ?_
      exact j_X11_ask_77 N x0 x1 x2 x5 v5 x5 g h0 hL32

theorem j_X11_ask {X : ZX} (N : Nat) (x0 : Nat)   (g : ZS) {K : (Int32 × ZS) → Prop} (h0 : ∀ v g, K (v, g) → xK X (some (.int v)) g) : J Y_X11_ask X 0 0 0 [some (.ref x0), none, none, none, none, none, none, none] [] g (f_X11_ask N x0 g) K := by
  unfold f_X11_ask
  refine J_aload_n rfl rfl (show Dc Y_X11_ask 0 (.aload_n 0) 1 1 from ⟨by decide +kernel, rfl⟩) ?_
  refine J_callVi (fun r => r.1) (fun r => r.2) (show Dc Y_X11_ask 1 (.invokevirtual 427) 3 4 from ⟨by decide +kernel, rfl⟩) w_m_RX11_427 w_in_X11_fittingParrots rfl w_se_X11_fittingParrots w_cw_X11_fittingParrots (c_X11_fittingParrots N x0 g) rfl rfl (by decide) (Nat.le_of_ble_eq_true rfl) (by decide) (by decide) (fun r1 => ?_)
  refine J_istore_n [some (.ref x0), some (.int r1.1), none, none, none, none, none, none] (show Dc Y_X11_ask 4 (.istore_n 1) 1 5 from ⟨by decide +kernel, rfl⟩) rfl (by decide) rfl rfl ?_
  refine J_iload_n rfl rfl (show Dc Y_X11_ask 5 (.iload_n 1) 1 6 from ⟨by decide +kernel, rfl⟩) ?_
  refine J_if_ne (tg := 12) (show Dc Y_X11_ask 6 (.ifCond .ne 6) 3 9 from ⟨by decide +kernel, rfl⟩) (by decide) (fun h => ?_) (fun h => ?_)
  · refine J_aload_n rfl rfl (show Dc Y_X11_ask 12 (.aload_n 0) 1 13 from ⟨by decide +kernel, rfl⟩) ?_
    refine J_bipush (8 : Int32) rfl (show Dc Y_X11_ask 13 (.bipush 8) 2 15 from ⟨by decide +kernel, rfl⟩) ?_
    refine J_callVv (fun r => r) (show Dc Y_X11_ask 15 (.invokevirtual 335) 3 18 from ⟨by decide +kernel, rfl⟩) w_m_RX11_335 w_in_X11_gatherSets rfl w_se_X11_gatherSets w_cw_X11_gatherSets (c_X11_gatherSets N x0 (8 : Int32) r1.2) rfl rfl (by decide) (Nat.le_of_ble_eq_true rfl) (by decide) (by decide) (fun g2 => ?_)
    refine J_iload_n rfl rfl (show Dc Y_X11_ask 18 (.iload_n 1) 1 19 from ⟨by decide +kernel, rfl⟩) ?_
    refine J_callSi (fun r => r) (fun _ => g2) (show Dc Y_X11_ask 19 (.invokestatic 255) 3 22 from ⟨by decide +kernel, rfl⟩) w_m_RX11_255 w_st_J6_bitCount_0f7a4 w_cw_J6_bitCount_0f7a4 (c_J6_bitCount_0f7a4 r1.1 g2) rfl rfl (by decide) (Nat.le_of_ble_eq_true rfl) (by decide) (by decide) (fun v3 => ?_)
    refine J_istore_n [some (.ref x0), some (.int r1.1), some (.int v3), none, none, none, none, none] (show Dc Y_X11_ask 22 (.istore_n 2) 1 23 from ⟨by decide +kernel, rfl⟩) rfl (by decide) rfl rfl ?_
    refine J_iconst (-1 : Int32) rfl (show Dc Y_X11_ask 23 (.iconst (-1)) 1 24 from ⟨by decide +kernel, rfl⟩) ?_
    refine J_istore_n [some (.ref x0), some (.int r1.1), some (.int v3), some (.int (-1 : Int32)), none, none, none, none] (show Dc Y_X11_ask 24 (.istore_n 3) 1 25 from ⟨by decide +kernel, rfl⟩) rfl (by decide) rfl rfl ?_
    refine J_bipush (7 : Int32) rfl (show Dc Y_X11_ask 25 (.bipush 7) 2 27 from ⟨by decide +kernel, rfl⟩) ?_
    refine J_istore [some (.ref x0), some (.int r1.1), some (.int v3), some (.int (-1 : Int32)), some (.int (7 : Int32)), none, none, none] (show Dc Y_X11_ask 27 (.istore 4) 2 29 from ⟨by decide +kernel, rfl⟩) (by decide) rfl rfl ?_
    refine J_iconst (0 : Int32) rfl (show Dc Y_X11_ask 29 (.iconst 0) 1 30 from ⟨by decide +kernel, rfl⟩) ?_
    refine J_istore [some (.ref x0), some (.int r1.1), some (.int v3), some (.int (-1 : Int32)), some (.int (7 : Int32)), some (.int (0 : Int32)), none, none] (show Dc Y_X11_ask 30 (.istore 5) 2 32 from ⟨by decide +kernel, rfl⟩) (by decide) rfl rfl ?_
    exact J_loop (X := X) (K := K) (uc := fun _ => 0) (us := fun _ => 0) (lf := fun s => [some (.ref x0), some (.int r1.1), some (.int v3), some (.int s.1), some (.int s.2.1), some (.int s.2.2), none, none]) (gf := fun s => g2) (fun s => j_X11_ask_32 (K := zKl Y_X11_ask X 32 (fun _ => 0) (fun _ => 0) (fun s => [some (.ref x0), some (.int r1.1), some (.int v3), some (.int s.1), some (.int s.2.1), some (.int s.2.2), none, none]) (fun s => g2) K) N x0 r1.1 v3 s.1 s.2.1 s.2.2 g2 h0 (fun s h => h)) N ((-1 : Int32), (7 : Int32), (0 : Int32))
  · refine J_bipush (-2 : Int32) rfl (show Dc Y_X11_ask 9 (.bipush (-2)) 2 11 from ⟨by decide +kernel, rfl⟩) ?_
    exact J_reti (show Dc Y_X11_ask 11 (.ireturn) 1 12 from ⟨by decide +kernel, rfl⟩) rfl (h0 _ _) (by decide) (by decide)

theorem c_X11_ask {l : Launch} {D : ZD} {B0 : Nat} (N : Nat) (x0 : Nat) (g : ZS) : ∀ r, f_X11_ask N x0 g = some r → zCt l D B0 yX11_ask Y_X11_ask [.ref x0] g (some (.int r.1)) r.2 :=
  zCt_ofF (vo := fun r => some (.int r.1)) (so := fun r => r.2) (by decide +kernel) rfl (fun h => by cases h) rfl (Nat.le_of_ble_eq_true rfl) (fun X => j_X11_ask N x0 g (fun _ _ h => h))

theorem j_X11_share_19 {X : ZX} (x0 : Int32) (x2 : Int32) (s0 : Int32)  (g : ZS) {K : Int32 → Prop} (h0 : ∀ v, K v → xK X (some (.int v)) g) : J Y_X11_share X 0 0 19 [some (.int x0), none, some (.int x2), none] [.int s0] g (f_X11_share_19 x0 x2 s0) K := by
  unfold f_X11_share_19
  refine J_iload_n rfl rfl (show Dc Y_X11_share 19 (.iload_n 2) 1 20 from ⟨by decide +kernel, rfl⟩) ?_
  refine J_iload_n rfl rfl (show Dc Y_X11_share 20 (.iload_n 0) 1 21 from ⟨by decide +kernel, rfl⟩) ?_
  refine J_imul (show Dc Y_X11_share 21 (.imul) 1 22 from ⟨by decide +kernel, rfl⟩) ?_
  refine J_isub (show Dc Y_X11_share 22 (.isub) 1 23 from ⟨by decide +kernel, rfl⟩) ?_
  exact J_reti (show Dc Y_X11_share 23 (.ireturn) 1 24 from ⟨by decide +kernel, rfl⟩) rfl (h0 _) (by decide) (by decide)

theorem j_X11_share {X : ZX} (x0 : Int32) (x1 : Int32) (x2 : Int32)   (g : ZS) {K : Int32 → Prop} (h0 : ∀ v, K v → xK X (some (.int v)) g) : J Y_X11_share X 0 0 0 [some (.int x0), some (.int x1), some (.int x2), none] [] g (f_X11_share x0 x1 x2) K := by
  unfold f_X11_share
  refine J_iload_n rfl rfl (show Dc Y_X11_share 0 (.iload_n 0) 1 1 from ⟨by decide +kernel, rfl⟩) ?_
  refine J_iload_n rfl rfl (show Dc Y_X11_share 1 (.iload_n 1) 1 2 from ⟨by decide +kernel, rfl⟩) ?_
  refine J_iadd (show Dc Y_X11_share 2 (.iadd) 1 3 from ⟨by decide +kernel, rfl⟩) ?_
  refine J_istore_n [some (.int x0), some (.int x1), some (.int x2), some (.int (x0 + x1))] (show Dc Y_X11_share 3 (.istore_n 3) 1 4 from ⟨by decide +kernel, rfl⟩) rfl (by decide) rfl rfl ?_
  refine J_iload_n rfl rfl (show Dc Y_X11_share 4 (.iload_n 3) 1 5 from ⟨by decide +kernel, rfl⟩) ?_
  refine J_if_le (tg := 17) (show Dc Y_X11_share 5 (.ifCond .le 12) 3 8 from ⟨by decide +kernel, rfl⟩) (by decide) (fun h => ?_) (fun h => ?_)
  · refine J_bipush (10 : Int32) rfl (show Dc Y_X11_share 17 (.bipush 10) 2 19 from ⟨by decide +kernel, rfl⟩) ?_
    refine J_mask [true, false, true, false] ?_
    exact j_X11_share_19 x0 x2 (10 : Int32) g h0
  · refine J_bipush (20 : Int32) rfl (show Dc Y_X11_share 8 (.bipush 20) 2 10 from ⟨by decide +kernel, rfl⟩) ?_
    refine J_iload_n rfl rfl (show Dc Y_X11_share 10 (.iload_n 0) 1 11 from ⟨by decide +kernel, rfl⟩) ?_
    refine J_imul (show Dc Y_X11_share 11 (.imul) 1 12 from ⟨by decide +kernel, rfl⟩) ?_
    refine J_iload_n rfl rfl (show Dc Y_X11_share 12 (.iload_n 3) 1 13 from ⟨by decide +kernel, rfl⟩) ?_
    refine J_idiv (show Dc Y_X11_share 13 (.idiv) 1 14 from ⟨by decide +kernel, rfl⟩) ?_
    refine J_goto (tg := 19) (show Dc Y_X11_share 14 (.goto 5) 3 17 from ⟨by decide +kernel, rfl⟩) (by decide) ?_
    refine J_mask [true, false, true, false] ?_
    exact j_X11_share_19 x0 x2 (((20 : Int32) * x0) / (x0 + x1)) g h0

theorem c_X11_share {l : Launch} {D : ZD} {B0 : Nat} (x0 : Int32) (x1 : Int32) (x2 : Int32) (g : ZS) : ∀ r, f_X11_share x0 x1 x2 = some r → zCt l D B0 yX11_share Y_X11_share [.int x0, .int x1, .int x2] g (some (.int r)) g :=
  zCt_ofF (vo := fun r => some (.int r)) (so := fun _ => g) (by decide +kernel) rfl (fun h => by cases h) rfl (Nat.le_of_ble_eq_true rfl) (fun X => j_X11_share x0 x1 x2 g (fun _ h => h))

theorem j_X11_isBest_10 {X : ZX} (N : Nat) (x1 : Int32) (x2 : Int32) (x3 : Int32) (x4 : Int32)   (g : ZS) {K : ((Int32) ⊕ Int32) → Prop} (h0 : ∀ v, K (.inr v) → xK X (some (.int v)) g) (hL10 : ∀ s, K (.inl s) → zG Y_X11_isBest X 0 0 10 [none, some (.int x1), some (.int x2), some (.int x3), some (.int s)] [] g) : J Y_X11_isBest X 0 0 10 [none, some (.int x1), some (.int x2), some (.int x3), some (.int x4)] [] g (f_X11_isBest_10 N x1 x2 x3 x4) K := by
  unfold f_X11_isBest_10
  refine J_iload rfl (show Dc Y_X11_isBest 10 (.iload 4) 2 12 from ⟨by decide +kernel, rfl⟩) ?_
  refine J_bipush (10 : Int32) rfl (show Dc Y_X11_isBest 12 (.bipush 10) 2 14 from ⟨by decide +kernel, rfl⟩) ?_
  refine J_icmp_ge (tg := 36) (show Dc Y_X11_isBest 14 (.if_icmp .ge 22) 3 17 from ⟨by decide +kernel, rfl⟩) (by decide) (fun h => ?_) (fun h => ?_)
  · refine J_map (f := Sum.inr) (fun _ h => h) ?_
    refine J_iconst (1 : Int32) rfl (show Dc Y_X11_isBest 36 (.iconst 1) 1 37 from ⟨by decide +kernel, rfl⟩) ?_
    exact J_retz rfl (show Dc Y_X11_isBest 37 (.ireturn) 1 38 from ⟨by decide +kernel, rfl⟩) rfl (h0 _) (by decide) (by decide)
  · refine J_iload rfl (show Dc Y_X11_isBest 17 (.iload 4) 2 19 from ⟨by decide +kernel, rfl⟩) ?_
    refine J_iload_n rfl rfl (show Dc Y_X11_isBest 19 (.iload_n 1) 1 20 from ⟨by decide +kernel, rfl⟩) ?_
    refine J_iload_n rfl rfl (show Dc Y_X11_isBest 20 (.iload_n 2) 1 21 from ⟨by decide +kernel, rfl⟩) ?_
    refine J_callSi (fun r => r) (fun _ => g) (show Dc Y_X11_isBest 21 (.invokestatic 441) 3 24 from ⟨by decide +kernel, rfl⟩) w_m_RX11_441 w_st_X11_share w_cw_X11_share (c_X11_share x4 x1 x2 g) rfl rfl (by decide) (Nat.le_of_ble_eq_true rfl) (by decide) (by decide) (fun v1 => ?_)
    refine J_iload_n rfl rfl (show Dc Y_X11_isBest 24 (.iload_n 3) 1 25 from ⟨by decide +kernel, rfl⟩) ?_
    refine J_icmp_le (tg := 30) (show Dc Y_X11_isBest 25 (.if_icmp .le 5) 3 28 from ⟨by decide +kernel, rfl⟩) (by decide) (fun h => ?_) (fun h => ?_)
    · refine J_iinc (1 : Int32) [none, some (.int x1), some (.int x2), some (.int x3), some (.int (x4 + (1 : Int32)))] (show Dc Y_X11_isBest 30 (.iinc 4 1) 3 33 from ⟨by decide +kernel, rfl⟩) rfl rfl (by decide) rfl rfl ?_
      refine J_goto (tg := 10) (show Dc Y_X11_isBest 33 (.goto (-23)) 3 36 from ⟨by decide +kernel, rfl⟩) (by decide) ?_
      exact J_leaf (fun h => hL10 (x4 + (1 : Int32)) h)
    · refine J_map (f := Sum.inr) (fun _ h => h) ?_
      refine J_iconst (0 : Int32) rfl (show Dc Y_X11_isBest 28 (.iconst 0) 1 29 from ⟨by decide +kernel, rfl⟩) ?_
      exact J_retz rfl (show Dc Y_X11_isBest 29 (.ireturn) 1 30 from ⟨by decide +kernel, rfl⟩) rfl (h0 _) (by decide) (by decide)

theorem j_X11_isBest {X : ZX} (N : Nat) (x0 : Int32) (x1 : Int32) (x2 : Int32)   (g : ZS) {K : Int32 → Prop} (h0 : ∀ v, K v → xK X (some (.int v)) g) : J Y_X11_isBest X 0 0 0 [some (.int x0), some (.int x1), some (.int x2), none, none] [] g (f_X11_isBest N x0 x1 x2) K := by
  unfold f_X11_isBest
  refine J_iload_n rfl rfl (show Dc Y_X11_isBest 0 (.iload_n 0) 1 1 from ⟨by decide +kernel, rfl⟩) ?_
  refine J_iload_n rfl rfl (show Dc Y_X11_isBest 1 (.iload_n 1) 1 2 from ⟨by decide +kernel, rfl⟩) ?_
  refine J_iload_n rfl rfl (show Dc Y_X11_isBest 2 (.iload_n 2) 1 3 from ⟨by decide +kernel, rfl⟩) ?_
  refine J_callSi (fun r => r) (fun _ => g) (show Dc Y_X11_isBest 3 (.invokestatic 441) 3 6 from ⟨by decide +kernel, rfl⟩) w_m_RX11_441 w_st_X11_share w_cw_X11_share (c_X11_share x0 x1 x2 g) rfl rfl (by decide) (Nat.le_of_ble_eq_true rfl) (by decide) (by decide) (fun v1 => ?_)
  refine J_istore_n [some (.int x0), some (.int x1), some (.int x2), some (.int v1), none] (show Dc Y_X11_isBest 6 (.istore_n 3) 1 7 from ⟨by decide +kernel, rfl⟩) rfl (by decide) rfl rfl ?_
  refine J_iconst (0 : Int32) rfl (show Dc Y_X11_isBest 7 (.iconst 0) 1 8 from ⟨by decide +kernel, rfl⟩) ?_
  refine J_istore [some (.int x0), some (.int x1), some (.int x2), some (.int v1), some (.int (0 : Int32))] (show Dc Y_X11_isBest 8 (.istore 4) 2 10 from ⟨by decide +kernel, rfl⟩) (by decide) rfl rfl ?_
  refine J_mask [false, true, true, true, true] ?_
  exact J_loop (X := X) (K := K) (uc := fun _ => 0) (us := fun _ => 0) (lf := fun s => [none, some (.int x1), some (.int x2), some (.int v1), some (.int s)]) (gf := fun s => g) (fun s => j_X11_isBest_10 (K := zKl Y_X11_isBest X 10 (fun _ => 0) (fun _ => 0) (fun s => [none, some (.int x1), some (.int x2), some (.int v1), some (.int s)]) (fun s => g) K) N x1 x2 v1 s g h0 (fun s h => h)) N (0 : Int32)

theorem c_X11_isBest {l : Launch} {D : ZD} {B0 : Nat} (N : Nat) (x0 : Int32) (x1 : Int32) (x2 : Int32) (g : ZS) : ∀ r, f_X11_isBest N x0 x1 x2 = some r → zCt l D B0 yX11_isBest Y_X11_isBest [.int x0, .int x1, .int x2] g (some (.int r)) g :=
  zCt_ofF (vo := fun r => some (.int r)) (so := fun _ => g) (by decide +kernel) rfl (fun h => by cases h) rfl (Nat.le_of_ble_eq_true rfl) (fun X => j_X11_isBest N x0 x1 x2 g (fun _ h => h))

theorem j_X11_rests_10 {X : ZX} (N : Nat)    (g : ZS) {K : (Int32 × ZS) → Prop} (h0 : ∀ v g, K (v, g) → xK X (some (.int v)) g) : J Y_X11_rests X 0 0 10 [none, none, none, none, none] [] g (f_X11_rests_10 N g) K := by
  unfold f_X11_rests_10
  refine J_iconst (-1 : Int32) rfl (show Dc Y_X11_rests 10 (.iconst (-1)) 1 11 from ⟨by decide +kernel, rfl⟩) ?_
  exact J_reti (show Dc Y_X11_rests 11 (.ireturn) 1 12 from ⟨by decide +kernel, rfl⟩) rfl (h0 _ _) (by decide) (by decide)

theorem j_X11_rests_79 {X : ZX} (N : Nat) (x0 : Nat) (x1 : Int32) (x2 : Int32) (x3 : Int32) (x4 : Int32)   (g : ZS) {K : ((Int32 × Int32 × ZS) ⊕ ((Int32 × Int32 × ZS) ⊕ (Int32 × ZS))) → Prop} (h0 : ∀ v g, K (.inr (.inr (v, g))) → xK X (some (.int v)) g) (hL24 : ∀ s, K (.inr (.inl s)) → zG Y_X11_rests X 0 0 24 [some (.ref x0), some (.int x1), some (.int s.1), some (.int s.2.1), none] [] s.2.2) (hL33 : ∀ s, K (.inl s) → zG Y_X11_rests X 0 0 33 [some (.ref x0), some (.int x1), some (.int s.1), some (.int x3), some (.int s.2.1)] [] s.2.2) : J Y_X11_rests X 0 0 79 [some (.ref x0), some (.int x1), some (.int x2), some (.int x3), some (.int x4)] [] g (f_X11_rests_79 N x0 x1 x2 x3 x4 g) K := by
  unfold f_X11_rests_79
  refine J_iinc (1 : Int32) [some (.ref x0), some (.int x1), some (.int x2), some (.int x3), some (.int (x4 + (1 : Int32)))] (show Dc Y_X11_rests 79 (.iinc 4 1) 3 82 from ⟨by decide +kernel, rfl⟩) rfl rfl (by decide) rfl rfl ?_
  refine J_goto (tg := 33) (show Dc Y_X11_rests 82 (.goto (-49)) 3 85 from ⟨by decide +kernel, rfl⟩) (by decide) ?_
  exact J_leaf (fun h => hL33 (x2, x4 + (1 : Int32), g) h)

theorem j_X11_rests_76 {X : ZX} (N : Nat) (x0 : Nat) (x1 : Int32) (x2 : Int32) (x3 : Int32) (x4 : Int32)   (g : ZS) {K : ((Int32 × Int32 × ZS) ⊕ ((Int32 × Int32 × ZS) ⊕ (Int32 × ZS))) → Prop} (h0 : ∀ v g, K (.inr (.inr (v, g))) → xK X (some (.int v)) g) (hL24 : ∀ s, K (.inr (.inl s)) → zG Y_X11_rests X 0 0 24 [some (.ref x0), some (.int x1), some (.int s.1), some (.int s.2.1), none] [] s.2.2) (hL33 : ∀ s, K (.inl s) → zG Y_X11_rests X 0 0 33 [some (.ref x0), some (.int x1), some (.int s.1), some (.int x3), some (.int s.2.1)] [] s.2.2) : J Y_X11_rests X 0 0 76 [some (.ref x0), some (.int x1), some (.int x2), some (.int x3), some (.int x4)] [] g (f_X11_rests_76 N x0 x1 x2 x3 x4 g) K := by
  unfold f_X11_rests_76
  refine J_iinc (1 : Int32) [some (.ref x0), some (.int x1), some (.int (x2 + (1 : Int32))), some (.int x3), some (.int x4)] (show Dc Y_X11_rests 76 (.iinc 2 1) 3 79 from ⟨by decide +kernel, rfl⟩) rfl rfl (by decide) rfl rfl ?_
  exact j_X11_rests_79 N x0 x1 (x2 + (1 : Int32)) x3 x4 g h0 hL24 hL33

theorem j_X11_rests_33 {X : ZX} (N : Nat) (x0 : Nat) (x1 : Int32) (x2 : Int32) (x3 : Int32) (x4 : Int32)   (g : ZS) {K : ((Int32 × Int32 × ZS) ⊕ ((Int32 × Int32 × ZS) ⊕ (Int32 × ZS))) → Prop} (h0 : ∀ v g, K (.inr (.inr (v, g))) → xK X (some (.int v)) g) (hL24 : ∀ s, K (.inr (.inl s)) → zG Y_X11_rests X 0 0 24 [some (.ref x0), some (.int x1), some (.int s.1), some (.int s.2.1), none] [] s.2.2) (hL33 : ∀ s, K (.inl s) → zG Y_X11_rests X 0 0 33 [some (.ref x0), some (.int x1), some (.int s.1), some (.int x3), some (.int s.2.1)] [] s.2.2) : J Y_X11_rests X 0 0 33 [some (.ref x0), some (.int x1), some (.int x2), some (.int x3), some (.int x4)] [] g (f_X11_rests_33 N x0 x1 x2 x3 x4 g) K := by
  unfold f_X11_rests_33
  refine J_iload rfl (show Dc Y_X11_rests 33 (.iload 4) 2 35 from ⟨by decide +kernel, rfl⟩) ?_
  refine J_bipush (10 : Int32) rfl (show Dc Y_X11_rests 35 (.bipush 10) 2 37 from ⟨by decide +kernel, rfl⟩) ?_
  refine J_icmp_ge (tg := 85) (show Dc Y_X11_rests 37 (.if_icmp .ge 48) 3 40 from ⟨by decide +kernel, rfl⟩) (by decide) (fun h => ?_) (fun h => ?_)
  · refine J_map (f := Sum.inr) (fun _ h => h) ?_
    refine J_iinc (1 : Int32) [some (.ref x0), some (.int x1), some (.int x2), some (.int (x3 + (1 : Int32))), some (.int x4)] (show Dc Y_X11_rests 85 (.iinc 3 1) 3 88 from ⟨by decide +kernel, rfl⟩) rfl rfl (by decide) rfl rfl ?_
    refine J_goto (tg := 24) (show Dc Y_X11_rests 88 (.goto (-64)) 3 91 from ⟨by decide +kernel, rfl⟩) (by decide) ?_
    refine J_mask [true, true, true, true, false] ?_
    exact J_leaf (fun h => hL24 (x2, x3 + (1 : Int32), g) h)
  · refine J_iload_n rfl rfl (show Dc Y_X11_rests 40 (.iload_n 3) 1 41 from ⟨by decide +kernel, rfl⟩) ?_
    refine J_iload rfl (show Dc Y_X11_rests 41 (.iload 4) 2 43 from ⟨by decide +kernel, rfl⟩) ?_
    refine J_iload_n rfl rfl (show Dc Y_X11_rests 43 (.iload_n 1) 1 44 from ⟨by decide +kernel, rfl⟩) ?_
    refine J_callSi (fun r => r) (fun _ => g) (show Dc Y_X11_rests 44 (.invokestatic 437) 3 47 from ⟨by decide +kernel, rfl⟩) w_m_RX11_437 w_st_X11_isBest w_cw_X11_isBest (c_X11_isBest N x3 x4 x1 g) rfl rfl (by decide) (Nat.le_of_ble_eq_true rfl) (by decide) (by decide) (fun v1 => ?_)
    refine J_if_eq (tg := 79) (show Dc Y_X11_rests 47 (.ifCond .eq 32) 3 50 from ⟨by decide +kernel, rfl⟩) (by decide) (fun h => ?_) (fun h => ?_)
    · exact j_X11_rests_79 N x0 x1 x2 x3 x4 g h0 hL24 hL33
    · refine J_iload rfl (show Dc Y_X11_rests 50 (.iload 4) 2 52 from ⟨by decide +kernel, rfl⟩) ?_
      refine J_iload_n rfl rfl (show Dc Y_X11_rests 52 (.iload_n 3) 1 53 from ⟨by decide +kernel, rfl⟩) ?_
      refine J_iload_n rfl rfl (show Dc Y_X11_rests 53 (.iload_n 1) 1 54 from ⟨by decide +kernel, rfl⟩) ?_
      refine J_callSi (fun r => r) (fun _ => g) (show Dc Y_X11_rests 54 (.invokestatic 437) 3 57 from ⟨by decide +kernel, rfl⟩) w_m_RX11_437 w_st_X11_isBest w_cw_X11_isBest (c_X11_isBest N x4 x3 x1 g) rfl rfl (by decide) (Nat.le_of_ble_eq_true rfl) (by decide) (by decide) (fun v2 => ?_)
      refine J_if_eq (tg := 79) (show Dc Y_X11_rests 57 (.ifCond .eq 22) 3 60 from ⟨by decide +kernel, rfl⟩) (by decide) (fun h => ?_) (fun h => ?_)
      · exact j_X11_rests_79 N x0 x1 x2 x3 x4 g h0 hL24 hL33
      · refine J_iload_n rfl rfl (show Dc Y_X11_rests 60 (.iload_n 2) 1 61 from ⟨by decide +kernel, rfl⟩) ?_
        refine J_if_ne (tg := 76) (show Dc Y_X11_rests 61 (.ifCond .ne 15) 3 64 from ⟨by decide +kernel, rfl⟩) (by decide) (fun h => ?_) (fun h => ?_)
        · exact j_X11_rests_76 N x0 x1 x2 x3 x4 g h0 hL24 hL33
        · refine J_aload_n rfl rfl (show Dc Y_X11_rests 64 (.aload_n 0) 1 65 from ⟨by decide +kernel, rfl⟩) ?_
          refine J_getR (show Dc Y_X11_rests 65 (.getfield 19) 3 68 from ⟨by decide +kernel, rfl⟩) w_f_RX11_19 rfl (fun v3 => ?_)
          refine J_iload_n rfl rfl (show Dc Y_X11_rests 68 (.iload_n 3) 1 69 from ⟨by decide +kernel, rfl⟩) ?_
          refine J_i2l (show Dc Y_X11_rests 69 (.i2l) 1 70 from ⟨by decide +kernel, rfl⟩) ?_
          refine J_iload rfl (show Dc Y_X11_rests 70 (.iload 4) 2 72 from ⟨by decide +kernel, rfl⟩) ?_
          refine J_i2l (show Dc Y_X11_rests 72 (.i2l) 1 73 from ⟨by decide +kernel, rfl⟩) ?_
          refine J_callVv (fun r => r) (show Dc Y_X11_rests 73 (.invokevirtual 317) 3 76 from ⟨by decide +kernel, rfl⟩) w_m_RX11_317 w_in_X9_pair rfl w_se_X9_pair w_cw_X9_pair (c_X9_pair v3 x3.toInt64 x4.toInt64 g) rfl rfl (by decide) (Nat.le_of_ble_eq_true rfl) (by decide) (by decide) (fun g4 => ?_)
          exact j_X11_rests_76 N x0 x1 x2 x3 x4 g4 h0 hL24 hL33

theorem j_X11_rests_24 {X : ZX} (N : Nat) (x0 : Nat) (x1 : Int32) (x2 : Int32) (x3 : Int32)   (g : ZS) {K : ((Int32 × Int32 × ZS) ⊕ (Int32 × ZS)) → Prop} (h0 : ∀ v g, K (.inr (v, g)) → xK X (some (.int v)) g) (hL24 : ∀ s, K (.inl s) → zG Y_X11_rests X 0 0 24 [some (.ref x0), some (.int x1), some (.int s.1), some (.int s.2.1), none] [] s.2.2) : J Y_X11_rests X 0 0 24 [some (.ref x0), some (.int x1), some (.int x2), some (.int x3), none] [] g (f_X11_rests_24 N x0 x1 x2 x3 g) K := by
  unfold f_X11_rests_24
  refine J_iload_n rfl rfl (show Dc Y_X11_rests 24 (.iload_n 3) 1 25 from ⟨by decide +kernel, rfl⟩) ?_
  refine J_bipush (10 : Int32) rfl (show Dc Y_X11_rests 25 (.bipush 10) 2 27 from ⟨by decide +kernel, rfl⟩) ?_
  refine J_icmp_ge (tg := 91) (show Dc Y_X11_rests 27 (.if_icmp .ge 64) 3 30 from ⟨by decide +kernel, rfl⟩) (by decide) (fun h => ?_) (fun h => ?_)
  · refine J_map (f := Sum.inr) (fun _ h => h) ?_
    refine J_iload_n rfl rfl (show Dc Y_X11_rests 91 (.iload_n 2) 1 92 from ⟨by decide +kernel, rfl⟩) ?_
    exact J_reti (show Dc Y_X11_rests 92 (.ireturn) 1 93 from ⟨by decide +kernel, rfl⟩) rfl (h0 _ _) (by decide) (by decide)
  · refine J_iconst (0 : Int32) rfl (show Dc Y_X11_rests 30 (.iconst 0) 1 31 from ⟨by decide +kernel, rfl⟩) ?_
    refine J_istore [some (.ref x0), some (.int x1), some (.int x2), some (.int x3), some (.int (0 : Int32))] (show Dc Y_X11_rests 31 (.istore 4) 2 33 from ⟨by decide +kernel, rfl⟩) (by decide) rfl rfl ?_
    exact J_loop (X := X) (K := K) (uc := fun _ => 0) (us := fun _ => 0) (lf := fun s => [some (.ref x0), some (.int x1), some (.int s.1), some (.int x3), some (.int s.2.1)]) (gf := fun s => s.2.2) (fun s => j_X11_rests_33 (K := zKl Y_X11_rests X 33 (fun _ => 0) (fun _ => 0) (fun s => [some (.ref x0), some (.int x1), some (.int s.1), some (.int x3), some (.int s.2.1)]) (fun s => s.2.2) K) N x0 x1 s.1 x3 s.2.1 s.2.2 h0 hL24 (fun s h => h)) N (x2, (0 : Int32), g)

theorem j_X11_rests {X : ZX} (N : Nat) (x0 : Nat) (x1 : Int32)   (g : ZS) {K : (Int32 × ZS) → Prop} (h0 : ∀ v g, K (v, g) → xK X (some (.int v)) g) : J Y_X11_rests X 0 0 0 [some (.ref x0), some (.int x1), none, none, none] [] g (f_X11_rests N x0 x1 g) K := by
  unfold f_X11_rests
  refine J_iload_n rfl rfl (show Dc Y_X11_rests 0 (.iload_n 1) 1 1 from ⟨by decide +kernel, rfl⟩) ?_
  refine J_if_lt (tg := 10) (show Dc Y_X11_rests 1 (.ifCond .lt 9) 3 4 from ⟨by decide +kernel, rfl⟩) (by decide) (fun h => ?_) (fun h => ?_)
  · refine J_mask [false, false, false, false, false] ?_
    exact j_X11_rests_10 N g h0
  · refine J_iload_n rfl rfl (show Dc Y_X11_rests 4 (.iload_n 1) 1 5 from ⟨by decide +kernel, rfl⟩) ?_
    refine J_bipush (9 : Int32) rfl (show Dc Y_X11_rests 5 (.bipush 9) 2 7 from ⟨by decide +kernel, rfl⟩) ?_
    refine J_icmp_le (tg := 12) (show Dc Y_X11_rests 7 (.if_icmp .le 5) 3 10 from ⟨by decide +kernel, rfl⟩) (by decide) (fun h => ?_) (fun h => ?_)
    · refine J_iconst (0 : Int32) rfl (show Dc Y_X11_rests 12 (.iconst 0) 1 13 from ⟨by decide +kernel, rfl⟩) ?_
      refine J_istore_n [some (.ref x0), some (.int x1), some (.int (0 : Int32)), none, none] (show Dc Y_X11_rests 13 (.istore_n 2) 1 14 from ⟨by decide +kernel, rfl⟩) rfl (by decide) rfl rfl ?_
      refine J_aload_n rfl rfl (show Dc Y_X11_rests 14 (.aload_n 0) 1 15 from ⟨by decide +kernel, rfl⟩) ?_
      refine J_getR (show Dc Y_X11_rests 15 (.getfield 19) 3 18 from ⟨by decide +kernel, rfl⟩) w_f_RX11_19 rfl (fun v1 => ?_)
      refine J_iconst (0 : Int32) rfl (show Dc Y_X11_rests 18 (.iconst 0) 1 19 from ⟨by decide +kernel, rfl⟩) ?_
      refine J_putI (show Dc Y_X11_rests 19 (.putfield 254) 3 22 from ⟨by decide +kernel, rfl⟩) w_f_RX11_254 rfl rfl (fun g2 => ?_) (fun h => by cases h)
      refine J_iconst (0 : Int32) rfl (show Dc Y_X11_rests 22 (.iconst 0) 1 23 from ⟨by decide +kernel, rfl⟩) ?_
      refine J_istore_n [some (.ref x0), some (.int x1), some (.int (0 : Int32)), some (.int (0 : Int32)), none] (show Dc Y_X11_rests 23 (.istore_n 3) 1 24 from ⟨by decide +kernel, rfl⟩) rfl (by decide) rfl rfl ?_
      exact J_loop (X := X) (K := K) (uc := fun _ => 0) (us := fun _ => 0) (lf := fun s => [some (.ref x0), some (.int x1), some (.int s.1), some (.int s.2.1), none]) (gf := fun s => s.2.2) (fun s => j_X11_rests_24 (K := zKl Y_X11_rests X 24 (fun _ => 0) (fun _ => 0) (fun s => [some (.ref x0), some (.int x1), some (.int s.1), some (.int s.2.1), none]) (fun s => s.2.2) K) N x0 x1 s.1 s.2.1 s.2.2 h0 (fun s h => h)) N ((0 : Int32), (0 : Int32), g2)
    · refine J_mask [false, false, false, false, false] ?_
      exact j_X11_rests_10 N g h0

theorem c_X11_rests {l : Launch} {D : ZD} {B0 : Nat} (N : Nat) (x0 : Nat) (x1 : Int32) (g : ZS) : ∀ r, f_X11_rests N x0 x1 g = some r → zCt l D B0 yX11_rests Y_X11_rests [.ref x0, .int x1] g (some (.int r.1)) r.2 :=
  zCt_ofF (vo := fun r => some (.int r.1)) (so := fun r => r.2) (by decide +kernel) rfl (fun h => by cases h) rfl (Nat.le_of_ble_eq_true rfl) (fun X => j_X11_rests N x0 x1 g (fun _ _ h => h))

theorem j_X12_gets_19 {X : ZX} (x0 : Int32) (x2 : Int32) (s0 : Int32)  (g : ZS) {K : Int32 → Prop} (h0 : ∀ v, K v → xK X (some (.int v)) g) : J Y_X12_gets X 0 0 19 [some (.int x0), none, some (.int x2)] [.int s0] g (f_X12_gets_19 x0 x2 s0) K := by
  unfold f_X12_gets_19
  refine J_iload_n rfl rfl (show Dc Y_X12_gets 19 (.iload_n 2) 1 20 from ⟨by decide +kernel, rfl⟩) ?_
  refine J_iload_n rfl rfl (show Dc Y_X12_gets 20 (.iload_n 0) 1 21 from ⟨by decide +kernel, rfl⟩) ?_
  refine J_imul (show Dc Y_X12_gets 21 (.imul) 1 22 from ⟨by decide +kernel, rfl⟩) ?_
  refine J_isub (show Dc Y_X12_gets 22 (.isub) 1 23 from ⟨by decide +kernel, rfl⟩) ?_
  exact J_reti (show Dc Y_X12_gets 23 (.ireturn) 1 24 from ⟨by decide +kernel, rfl⟩) rfl (h0 _) (by decide) (by decide)

theorem j_X12_gets {X : ZX} (x0 : Int32) (x1 : Int32) (x2 : Int32)   (g : ZS) {K : Int32 → Prop} (h0 : ∀ v, K v → xK X (some (.int v)) g) : J Y_X12_gets X 0 0 0 [some (.int x0), some (.int x1), some (.int x2)] [] g (f_X12_gets x0 x1 x2) K := by
  unfold f_X12_gets
  refine J_iload_n rfl rfl (show Dc Y_X12_gets 0 (.iload_n 0) 1 1 from ⟨by decide +kernel, rfl⟩) ?_
  refine J_iload_n rfl rfl (show Dc Y_X12_gets 1 (.iload_n 1) 1 2 from ⟨by decide +kernel, rfl⟩) ?_
  refine J_iadd (show Dc Y_X12_gets 2 (.iadd) 1 3 from ⟨by decide +kernel, rfl⟩) ?_
  refine J_if_ne (tg := 11) (show Dc Y_X12_gets 3 (.ifCond .ne 8) 3 6 from ⟨by decide +kernel, rfl⟩) (by decide) (fun h => ?_) (fun h => ?_)
  · refine J_bipush (20 : Int32) rfl (show Dc Y_X12_gets 11 (.bipush 20) 2 13 from ⟨by decide +kernel, rfl⟩) ?_
    refine J_iload_n rfl rfl (show Dc Y_X12_gets 13 (.iload_n 0) 1 14 from ⟨by decide +kernel, rfl⟩) ?_
    refine J_imul (show Dc Y_X12_gets 14 (.imul) 1 15 from ⟨by decide +kernel, rfl⟩) ?_
    refine J_iload_n rfl rfl (show Dc Y_X12_gets 15 (.iload_n 0) 1 16 from ⟨by decide +kernel, rfl⟩) ?_
    refine J_iload_n rfl rfl (show Dc Y_X12_gets 16 (.iload_n 1) 1 17 from ⟨by decide +kernel, rfl⟩) ?_
    refine J_iadd (show Dc Y_X12_gets 17 (.iadd) 1 18 from ⟨by decide +kernel, rfl⟩) ?_
    refine J_idiv (show Dc Y_X12_gets 18 (.idiv) 1 19 from ⟨by decide +kernel, rfl⟩) ?_
    refine J_mask [true, false, true] ?_
    exact j_X12_gets_19 x0 x2 (((20 : Int32) * x0) / (x0 + x1)) g h0
  · refine J_bipush (10 : Int32) rfl (show Dc Y_X12_gets 6 (.bipush 10) 2 8 from ⟨by decide +kernel, rfl⟩) ?_
    refine J_goto (tg := 19) (show Dc Y_X12_gets 8 (.goto 11) 3 11 from ⟨by decide +kernel, rfl⟩) (by decide) ?_
    refine J_mask [true, false, true] ?_
    exact j_X12_gets_19 x0 x2 (10 : Int32) g h0

theorem c_X12_gets {l : Launch} {D : ZD} {B0 : Nat} (x0 : Int32) (x1 : Int32) (x2 : Int32) (g : ZS) : ∀ r, f_X12_gets x0 x1 x2 = some r → zCt l D B0 yX12_gets Y_X12_gets [.int x0, .int x1, .int x2] g (some (.int r)) g :=
  zCt_ofF (vo := fun r => some (.int r)) (so := fun _ => g) (by decide +kernel) rfl (fun h => by cases h) rfl (Nat.le_of_ble_eq_true rfl) (fun X => j_X12_gets x0 x1 x2 g (fun _ h => h))

theorem j_X12_isBest_2 {X : ZX} (N : Nat) (x0 : Int32) (x1 : Int32) (x2 : Int32) (x3 : Int32)   (g : ZS) {K : ((Int32) ⊕ Int32) → Prop} (h0 : ∀ v, K (.inr v) → xK X (some (.int v)) g) (hL2 : ∀ s, K (.inl s) → zG Y_X12_isBest X 0 0 2 [some (.int x0), some (.int x1), some (.int x2), some (.int s)] [] g) : J Y_X12_isBest X 0 0 2 [some (.int x0), some (.int x1), some (.int x2), some (.int x3)] [] g (f_X12_isBest_2 N x0 x1 x2 x3) K := by
  unfold f_X12_isBest_2
  refine J_iload_n rfl rfl (show Dc Y_X12_isBest 2 (.iload_n 3) 1 3 from ⟨by decide +kernel, rfl⟩) ?_
  refine J_bipush (9 : Int32) rfl (show Dc Y_X12_isBest 3 (.bipush 9) 2 5 from ⟨by decide +kernel, rfl⟩) ?_
  refine J_icmp_gt (tg := 31) (show Dc Y_X12_isBest 5 (.if_icmp .gt 26) 3 8 from ⟨by decide +kernel, rfl⟩) (by decide) (fun h => ?_) (fun h => ?_)
  · refine J_map (f := Sum.inr) (fun _ h => h) ?_
    refine J_iconst (1 : Int32) rfl (show Dc Y_X12_isBest 31 (.iconst 1) 1 32 from ⟨by decide +kernel, rfl⟩) ?_
    exact J_retz rfl (show Dc Y_X12_isBest 32 (.ireturn) 1 33 from ⟨by decide +kernel, rfl⟩) rfl (h0 _) (by decide) (by decide)
  · refine J_iload_n rfl rfl (show Dc Y_X12_isBest 8 (.iload_n 3) 1 9 from ⟨by decide +kernel, rfl⟩) ?_
    refine J_iload_n rfl rfl (show Dc Y_X12_isBest 9 (.iload_n 1) 1 10 from ⟨by decide +kernel, rfl⟩) ?_
    refine J_iload_n rfl rfl (show Dc Y_X12_isBest 10 (.iload_n 2) 1 11 from ⟨by decide +kernel, rfl⟩) ?_
    refine J_callSi (fun r => r) (fun _ => g) (show Dc Y_X12_isBest 11 (.invokestatic 382) 3 14 from ⟨by decide +kernel, rfl⟩) w_m_RX12_382 w_st_X12_gets w_cw_X12_gets (c_X12_gets x3 x1 x2 g) rfl rfl (by decide) (Nat.le_of_ble_eq_true rfl) (by decide) (by decide) (fun v1 => ?_)
    refine J_iload_n rfl rfl (show Dc Y_X12_isBest 14 (.iload_n 0) 1 15 from ⟨by decide +kernel, rfl⟩) ?_
    refine J_iload_n rfl rfl (show Dc Y_X12_isBest 15 (.iload_n 1) 1 16 from ⟨by decide +kernel, rfl⟩) ?_
    refine J_iload_n rfl rfl (show Dc Y_X12_isBest 16 (.iload_n 2) 1 17 from ⟨by decide +kernel, rfl⟩) ?_
    refine J_callSi (fun r => r) (fun _ => g) (show Dc Y_X12_isBest 17 (.invokestatic 382) 3 20 from ⟨by decide +kernel, rfl⟩) w_m_RX12_382 w_st_X12_gets w_cw_X12_gets (c_X12_gets x0 x1 x2 g) rfl rfl (by decide) (Nat.le_of_ble_eq_true rfl) (by decide) (by decide) (fun v2 => ?_)
    refine J_icmp_le (tg := 25) (show Dc Y_X12_isBest 20 (.if_icmp .le 5) 3 23 from ⟨by decide +kernel, rfl⟩) (by decide) (fun h => ?_) (fun h => ?_)
    · refine J_iinc (1 : Int32) [some (.int x0), some (.int x1), some (.int x2), some (.int (x3 + (1 : Int32)))] (show Dc Y_X12_isBest 25 (.iinc 3 1) 3 28 from ⟨by decide +kernel, rfl⟩) rfl rfl (by decide) rfl rfl ?_
      refine J_goto (tg := 2) (show Dc Y_X12_isBest 28 (.goto (-26)) 3 31 from ⟨by decide +kernel, rfl⟩) (by decide) ?_
      exact J_leaf (fun h => hL2 (x3 + (1 : Int32)) h)
    · refine J_map (f := Sum.inr) (fun _ h => h) ?_
      refine J_iconst (0 : Int32) rfl (show Dc Y_X12_isBest 23 (.iconst 0) 1 24 from ⟨by decide +kernel, rfl⟩) ?_
      exact J_retz rfl (show Dc Y_X12_isBest 24 (.ireturn) 1 25 from ⟨by decide +kernel, rfl⟩) rfl (h0 _) (by decide) (by decide)

theorem j_X12_isBest {X : ZX} (N : Nat) (x0 : Int32) (x1 : Int32) (x2 : Int32)   (g : ZS) {K : Int32 → Prop} (h0 : ∀ v, K v → xK X (some (.int v)) g) : J Y_X12_isBest X 0 0 0 [some (.int x0), some (.int x1), some (.int x2), none] [] g (f_X12_isBest N x0 x1 x2) K := by
  unfold f_X12_isBest
  refine J_iconst (0 : Int32) rfl (show Dc Y_X12_isBest 0 (.iconst 0) 1 1 from ⟨by decide +kernel, rfl⟩) ?_
  refine J_istore_n [some (.int x0), some (.int x1), some (.int x2), some (.int (0 : Int32))] (show Dc Y_X12_isBest 1 (.istore_n 3) 1 2 from ⟨by decide +kernel, rfl⟩) rfl (by decide) rfl rfl ?_
  exact J_loop (X := X) (K := K) (uc := fun _ => 0) (us := fun _ => 0) (lf := fun s => [some (.int x0), some (.int x1), some (.int x2), some (.int s)]) (gf := fun s => g) (fun s => j_X12_isBest_2 (K := zKl Y_X12_isBest X 2 (fun _ => 0) (fun _ => 0) (fun s => [some (.int x0), some (.int x1), some (.int x2), some (.int s)]) (fun s => g) K) N x0 x1 x2 s g h0 (fun s h => h)) N (0 : Int32)

theorem c_X12_isBest {l : Launch} {D : ZD} {B0 : Nat} (N : Nat) (x0 : Int32) (x1 : Int32) (x2 : Int32) (g : ZS) : ∀ r, f_X12_isBest N x0 x1 x2 = some r → zCt l D B0 yX12_isBest Y_X12_isBest [.int x0, .int x1, .int x2] g (some (.int r)) g :=
  zCt_ofF (vo := fun r => some (.int r)) (so := fun _ => g) (by decide +kernel) rfl (fun h => by cases h) rfl (Nat.le_of_ble_eq_true rfl) (fun X => j_X12_isBest N x0 x1 x2 g (fun _ h => h))

theorem j_X12_rests_85 {X : ZX} (N : Nat) (x0 : Nat) (x1 : Int32) (x2 : Int32) (x3 : Int32) (x4 : Int32)   (g : ZS) {K : ((Int32 × Int32 × ZS) ⊕ ((Int32 × Int32 × ZS) ⊕ (Int32 × ZS))) → Prop} (h0 : ∀ v g, K (.inr (.inr (v, g))) → xK X (some (.int v)) g) (hL26 : ∀ s, K (.inr (.inl s)) → zG Y_X12_rests X 0 0 26 [some (.ref x0), some (.int x1), some (.int s.1), some (.int s.2.1), none] [] s.2.2) (hL35 : ∀ s, K (.inl s) → zG Y_X12_rests X 0 0 35 [some (.ref x0), some (.int x1), some (.int s.1), some (.int x3), some (.int s.2.1)] [] s.2.2) : J Y_X12_rests X 0 0 85 [some (.ref x0), some (.int x1), some (.int x2), some (.int x3), some (.int x4)] [] g (f_X12_rests_85 N x0 x1 x2 x3 x4 g) K := by
  unfold f_X12_rests_85
  refine J_iinc (1 : Int32) [some (.ref x0), some (.int x1), some (.int x2), some (.int x3), some (.int (x4 + (1 : Int32)))] (show Dc Y_X12_rests 85 (.iinc 4 1) 3 88 from ⟨by decide +kernel, rfl⟩) rfl rfl (by decide) rfl rfl ?_
  refine J_goto (tg := 35) (show Dc Y_X12_rests 88 (.goto (-53)) 3 91 from ⟨by decide +kernel, rfl⟩) (by decide) ?_
  exact J_leaf (fun h => hL35 (x2, x4 + (1 : Int32), g) h)

theorem j_X12_rests_82 {X : ZX} (N : Nat) (x0 : Nat) (x1 : Int32) (x2 : Int32) (x3 : Int32) (x4 : Int32)   (g : ZS) {K : ((Int32 × Int32 × ZS) ⊕ ((Int32 × Int32 × ZS) ⊕ (Int32 × ZS))) → Prop} (h0 : ∀ v g, K (.inr (.inr (v, g))) → xK X (some (.int v)) g) (hL26 : ∀ s, K (.inr (.inl s)) → zG Y_X12_rests X 0 0 26 [some (.ref x0), some (.int x1), some (.int s.1), some (.int s.2.1), none] [] s.2.2) (hL35 : ∀ s, K (.inl s) → zG Y_X12_rests X 0 0 35 [some (.ref x0), some (.int x1), some (.int s.1), some (.int x3), some (.int s.2.1)] [] s.2.2) : J Y_X12_rests X 0 0 82 [some (.ref x0), some (.int x1), some (.int x2), some (.int x3), some (.int x4)] [] g (f_X12_rests_82 N x0 x1 x2 x3 x4 g) K := by
  unfold f_X12_rests_82
  refine J_iinc (1 : Int32) [some (.ref x0), some (.int x1), some (.int (x2 + (1 : Int32))), some (.int x3), some (.int x4)] (show Dc Y_X12_rests 82 (.iinc 2 1) 3 85 from ⟨by decide +kernel, rfl⟩) rfl rfl (by decide) rfl rfl ?_
  exact j_X12_rests_85 N x0 x1 (x2 + (1 : Int32)) x3 x4 g h0 hL26 hL35

theorem j_X12_rests_35 {X : ZX} (N : Nat) (x0 : Nat) (x1 : Int32) (x2 : Int32) (x3 : Int32) (x4 : Int32)   (g : ZS) {K : ((Int32 × Int32 × ZS) ⊕ ((Int32 × Int32 × ZS) ⊕ (Int32 × ZS))) → Prop} (h0 : ∀ v g, K (.inr (.inr (v, g))) → xK X (some (.int v)) g) (hL26 : ∀ s, K (.inr (.inl s)) → zG Y_X12_rests X 0 0 26 [some (.ref x0), some (.int x1), some (.int s.1), some (.int s.2.1), none] [] s.2.2) (hL35 : ∀ s, K (.inl s) → zG Y_X12_rests X 0 0 35 [some (.ref x0), some (.int x1), some (.int s.1), some (.int x3), some (.int s.2.1)] [] s.2.2) : J Y_X12_rests X 0 0 35 [some (.ref x0), some (.int x1), some (.int x2), some (.int x3), some (.int x4)] [] g (f_X12_rests_35 N x0 x1 x2 x3 x4 g) K := by
  unfold f_X12_rests_35
  refine J_iload rfl (show Dc Y_X12_rests 35 (.iload 4) 2 37 from ⟨by decide +kernel, rfl⟩) ?_
  refine J_bipush (9 : Int32) rfl (show Dc Y_X12_rests 37 (.bipush 9) 2 39 from ⟨by decide +kernel, rfl⟩) ?_
  refine J_icmp_gt (tg := 91) (show Dc Y_X12_rests 39 (.if_icmp .gt 52) 3 42 from ⟨by decide +kernel, rfl⟩) (by decide) (fun h => ?_) (fun h => ?_)
  · refine J_map (f := Sum.inr) (fun _ h => h) ?_
    refine J_iinc (1 : Int32) [some (.ref x0), some (.int x1), some (.int x2), some (.int (x3 + (1 : Int32))), some (.int x4)] (show Dc Y_X12_rests 91 (.iinc 3 1) 3 94 from ⟨by decide +kernel, rfl⟩) rfl rfl (by decide) rfl rfl ?_
    refine J_goto (tg := 26) (show Dc Y_X12_rests 94 (.goto (-68)) 3 97 from ⟨by decide +kernel, rfl⟩) (by decide) ?_
    refine J_mask [true, true, true, true, false] ?_
    exact J_leaf (fun h => hL26 (x2, x3 + (1 : Int32), g) h)
  · refine J_iload_n rfl rfl (show Dc Y_X12_rests 42 (.iload_n 3) 1 43 from ⟨by decide +kernel, rfl⟩) ?_
    refine J_iload rfl (show Dc Y_X12_rests 43 (.iload 4) 2 45 from ⟨by decide +kernel, rfl⟩) ?_
    refine J_iload_n rfl rfl (show Dc Y_X12_rests 45 (.iload_n 1) 1 46 from ⟨by decide +kernel, rfl⟩) ?_
    refine J_callSi (fun r => r) (fun _ => g) (show Dc Y_X12_rests 46 (.invokestatic 385) 3 49 from ⟨by decide +kernel, rfl⟩) w_m_RX12_385 w_st_X12_isBest w_cw_X12_isBest (c_X12_isBest N x3 x4 x1 g) rfl rfl (by decide) (Nat.le_of_ble_eq_true rfl) (by decide) (by decide) (fun v1 => ?_)
    refine J_if_eq (tg := 85) (show Dc Y_X12_rests 49 (.ifCond .eq 36) 3 52 from ⟨by decide +kernel, rfl⟩) (by decide) (fun h => ?_) (fun h => ?_)
    · exact j_X12_rests_85 N x0 x1 x2 x3 x4 g h0 hL26 hL35
    · refine J_iload rfl (show Dc Y_X12_rests 52 (.iload 4) 2 54 from ⟨by decide +kernel, rfl⟩) ?_
      refine J_iload_n rfl rfl (show Dc Y_X12_rests 54 (.iload_n 3) 1 55 from ⟨by decide +kernel, rfl⟩) ?_
      refine J_iload_n rfl rfl (show Dc Y_X12_rests 55 (.iload_n 1) 1 56 from ⟨by decide +kernel, rfl⟩) ?_
      refine J_callSi (fun r => r) (fun _ => g) (show Dc Y_X12_rests 56 (.invokestatic 385) 3 59 from ⟨by decide +kernel, rfl⟩) w_m_RX12_385 w_st_X12_isBest w_cw_X12_isBest (c_X12_isBest N x4 x3 x1 g) rfl rfl (by decide) (Nat.le_of_ble_eq_true rfl) (by decide) (by decide) (fun v2 => ?_)
      refine J_if_ne (tg := 65) (show Dc Y_X12_rests 59 (.ifCond .ne 6) 3 62 from ⟨by decide +kernel, rfl⟩) (by decide) (fun h => ?_) (fun h => ?_)
      · refine J_iload_n rfl rfl (show Dc Y_X12_rests 65 (.iload_n 2) 1 66 from ⟨by decide +kernel, rfl⟩) ?_
        refine J_if_ne (tg := 82) (show Dc Y_X12_rests 66 (.ifCond .ne 16) 3 69 from ⟨by decide +kernel, rfl⟩) (by decide) (fun h => ?_) (fun h => ?_)
        · exact j_X12_rests_82 N x0 x1 x2 x3 x4 g h0 hL26 hL35
        · refine J_aload_n rfl rfl (show Dc Y_X12_rests 69 (.aload_n 0) 1 70 from ⟨by decide +kernel, rfl⟩) ?_
          refine J_iload_n rfl rfl (show Dc Y_X12_rests 70 (.iload_n 3) 1 71 from ⟨by decide +kernel, rfl⟩) ?_
          refine J_i2l (show Dc Y_X12_rests 71 (.i2l) 1 72 from ⟨by decide +kernel, rfl⟩) ?_
          refine J_callVv (fun r => r) (show Dc Y_X12_rests 72 (.invokevirtual 274) 3 75 from ⟨by decide +kernel, rfl⟩) w_m_RX12_274 w_in_X12_tell rfl w_se_X12_tell w_cw_X12_tell (c_X12_tell x0 x3.toInt64 g) rfl rfl (by decide) (Nat.le_of_ble_eq_true rfl) (by decide) (by decide) (fun g3 => ?_)
          refine J_aload_n rfl rfl (show Dc Y_X12_rests 75 (.aload_n 0) 1 76 from ⟨by decide +kernel, rfl⟩) ?_
          refine J_iload rfl (show Dc Y_X12_rests 76 (.iload 4) 2 78 from ⟨by decide +kernel, rfl⟩) ?_
          refine J_i2l (show Dc Y_X12_rests 78 (.i2l) 1 79 from ⟨by decide +kernel, rfl⟩) ?_
          refine J_callVv (fun r => r) (show Dc Y_X12_rests 79 (.invokevirtual 274) 3 82 from ⟨by decide +kernel, rfl⟩) w_m_RX12_274 w_in_X12_tell rfl w_se_X12_tell w_cw_X12_tell (c_X12_tell x0 x4.toInt64 g3) rfl rfl (by decide) (Nat.le_of_ble_eq_true rfl) (by decide) (by decide) (fun g4 => ?_)
          exact j_X12_rests_82 N x0 x1 x2 x3 x4 g4 h0 hL26 hL35
      · refine J_goto (tg := 85) (show Dc Y_X12_rests 62 (.goto 23) 3 65 from ⟨by decide +kernel, rfl⟩) (by decide) ?_
        exact j_X12_rests_85 N x0 x1 x2 x3 x4 g h0 hL26 hL35

theorem j_X12_rests_26 {X : ZX} (N : Nat) (x0 : Nat) (x1 : Int32) (x2 : Int32) (x3 : Int32)   (g : ZS) {K : ((Int32 × Int32 × ZS) ⊕ (Int32 × ZS)) → Prop} (h0 : ∀ v g, K (.inr (v, g)) → xK X (some (.int v)) g) (hL26 : ∀ s, K (.inl s) → zG Y_X12_rests X 0 0 26 [some (.ref x0), some (.int x1), some (.int s.1), some (.int s.2.1), none] [] s.2.2) : J Y_X12_rests X 0 0 26 [some (.ref x0), some (.int x1), some (.int x2), some (.int x3), none] [] g (f_X12_rests_26 N x0 x1 x2 x3 g) K := by
  unfold f_X12_rests_26
  refine J_iload_n rfl rfl (show Dc Y_X12_rests 26 (.iload_n 3) 1 27 from ⟨by decide +kernel, rfl⟩) ?_
  refine J_bipush (9 : Int32) rfl (show Dc Y_X12_rests 27 (.bipush 9) 2 29 from ⟨by decide +kernel, rfl⟩) ?_
  refine J_icmp_gt (tg := 97) (show Dc Y_X12_rests 29 (.if_icmp .gt 68) 3 32 from ⟨by decide +kernel, rfl⟩) (by decide) (fun h => ?_) (fun h => ?_)
  · refine J_map (f := Sum.inr) (fun _ h => h) ?_
    refine J_iload_n rfl rfl (show Dc Y_X12_rests 97 (.iload_n 2) 1 98 from ⟨by decide +kernel, rfl⟩) ?_
    exact J_reti (show Dc Y_X12_rests 98 (.ireturn) 1 99 from ⟨by decide +kernel, rfl⟩) rfl (h0 _ _) (by decide) (by decide)
  · refine J_iconst (0 : Int32) rfl (show Dc Y_X12_rests 32 (.iconst 0) 1 33 from ⟨by decide +kernel, rfl⟩) ?_
    refine J_istore [some (.ref x0), some (.int x1), some (.int x2), some (.int x3), some (.int (0 : Int32))] (show Dc Y_X12_rests 33 (.istore 4) 2 35 from ⟨by decide +kernel, rfl⟩) (by decide) rfl rfl ?_
    exact J_loop (X := X) (K := K) (uc := fun _ => 0) (us := fun _ => 0) (lf := fun s => [some (.ref x0), some (.int x1), some (.int s.1), some (.int x3), some (.int s.2.1)]) (gf := fun s => s.2.2) (fun s => j_X12_rests_35 (K := zKl Y_X12_rests X 35 (fun _ => 0) (fun _ => 0) (fun s => [some (.ref x0), some (.int x1), some (.int s.1), some (.int x3), some (.int s.2.1)]) (fun s => s.2.2) K) N x0 x1 s.1 x3 s.2.1 s.2.2 h0 hL26 (fun s h => h)) N (x2, (0 : Int32), g)

theorem j_X12_rests {X : ZX} (N : Nat) (x0 : Nat) (x1 : Int32)   (g : ZS) {K : (Int32 × ZS) → Prop} (h0 : ∀ v g, K (v, g) → xK X (some (.int v)) g) : J Y_X12_rests X 0 0 0 [some (.ref x0), some (.int x1), none, none, none] [] g (f_X12_rests N x0 x1 g) K := by
  unfold f_X12_rests
  refine J_aload_n rfl rfl (show Dc Y_X12_rests 0 (.aload_n 0) 1 1 from ⟨by decide +kernel, rfl⟩) ?_
  refine J_iconst (0 : Int32) rfl (show Dc Y_X12_rests 1 (.iconst 0) 1 2 from ⟨by decide +kernel, rfl⟩) ?_
  refine J_putI (show Dc Y_X12_rests 2 (.putfield 109) 3 5 from ⟨by decide +kernel, rfl⟩) w_f_RX12_109 rfl rfl (fun g1 => ?_) (fun h => by cases h)
  refine J_iload_n rfl rfl (show Dc Y_X12_rests 5 (.iload_n 1) 1 6 from ⟨by decide +kernel, rfl⟩) ?_
  refine J_iconst (0 : Int32) rfl (show Dc Y_X12_rests 6 (.iconst 0) 1 7 from ⟨by decide +kernel, rfl⟩) ?_
  refine J_bipush (9 : Int32) rfl (show Dc Y_X12_rests 7 (.bipush 9) 2 9 from ⟨by decide +kernel, rfl⟩) ?_
  refine J_callSi (fun r => r) (fun _ => g1) (show Dc Y_X12_rests 9 (.invokestatic 119) 3 12 from ⟨by decide +kernel, rfl⟩) w_m_RX12_119 w_st_X12_in w_cw_X12_in (c_X12_in x1 (0 : Int32) (9 : Int32) g1) rfl rfl (by decide) (Nat.le_of_ble_eq_true rfl) (by decide) (by decide) (fun v2 => ?_)
  refine J_if_ne (tg := 17) (show Dc Y_X12_rests 12 (.ifCond .ne 5) 3 15 from ⟨by decide +kernel, rfl⟩) (by decide) (fun h => ?_) (fun h => ?_)
  · refine J_iconst (0 : Int32) rfl (show Dc Y_X12_rests 17 (.iconst 0) 1 18 from ⟨by decide +kernel, rfl⟩) ?_
    refine J_istore_n [some (.ref x0), some (.int x1), some (.int (0 : Int32)), none, none] (show Dc Y_X12_rests 18 (.istore_n 2) 1 19 from ⟨by decide +kernel, rfl⟩) rfl (by decide) rfl rfl ?_
    refine J_aload_n rfl rfl (show Dc Y_X12_rests 19 (.aload_n 0) 1 20 from ⟨by decide +kernel, rfl⟩) ?_
    refine J_iconst (0 : Int32) rfl (show Dc Y_X12_rests 20 (.iconst 0) 1 21 from ⟨by decide +kernel, rfl⟩) ?_
    refine J_putI (show Dc Y_X12_rests 21 (.putfield 113) 3 24 from ⟨by decide +kernel, rfl⟩) w_f_RX12_113 rfl rfl (fun g3 => ?_) (fun h => by cases h)
    refine J_iconst (0 : Int32) rfl (show Dc Y_X12_rests 24 (.iconst 0) 1 25 from ⟨by decide +kernel, rfl⟩) ?_
    refine J_istore_n [some (.ref x0), some (.int x1), some (.int (0 : Int32)), some (.int (0 : Int32)), none] (show Dc Y_X12_rests 25 (.istore_n 3) 1 26 from ⟨by decide +kernel, rfl⟩) rfl (by decide) rfl rfl ?_
    exact J_loop (X := X) (K := K) (uc := fun _ => 0) (us := fun _ => 0) (lf := fun s => [some (.ref x0), some (.int x1), some (.int s.1), some (.int s.2.1), none]) (gf := fun s => s.2.2) (fun s => j_X12_rests_26 (K := zKl Y_X12_rests X 26 (fun _ => 0) (fun _ => 0) (fun s => [some (.ref x0), some (.int x1), some (.int s.1), some (.int s.2.1), none]) (fun s => s.2.2) K) N x0 x1 s.1 s.2.1 s.2.2 h0 (fun s h => h)) N ((0 : Int32), (0 : Int32), g3)
  · refine J_iconst (-1 : Int32) rfl (show Dc Y_X12_rests 15 (.iconst (-1)) 1 16 from ⟨by decide +kernel, rfl⟩) ?_
    exact J_reti (show Dc Y_X12_rests 16 (.ireturn) 1 17 from ⟨by decide +kernel, rfl⟩) rfl (h0 _ _) (by decide) (by decide)

theorem c_X12_rests {l : Launch} {D : ZD} {B0 : Nat} (N : Nat) (x0 : Nat) (x1 : Int32) (g : ZS) : ∀ r, f_X12_rests N x0 x1 g = some r → zCt l D B0 yX12_rests Y_X12_rests [.ref x0, .int x1] g (some (.int r.1)) r.2 :=
  zCt_ofF (vo := fun r => some (.int r.1)) (so := fun r => r.2) (by decide +kernel) rfl (fun h => by cases h) rfl (Nat.le_of_ble_eq_true rfl) (fun X => j_X12_rests N x0 x1 g (fun _ _ h => h))

theorem j_X1_init {X : ZX} (x0 : Nat) (x1 : Int32)   (g : ZS) {K : ZS → Prop} (h0 : ∀ g, K g → xK X none g) : J Y_X1_init X 0 0 0 [some (.ref x0), some (.int x1)] [] g (f_X1_init x0 x1 g) K := by
  unfold f_X1_init
  refine J_aload_n rfl rfl (show Dc Y_X1_init 0 (.aload_n 0) 1 1 from ⟨by decide +kernel, rfl⟩) ?_
  refine J_objI (show Dc Y_X1_init 1 (.invokespecial 1) 3 4 from ⟨by decide +kernel, rfl⟩) w_m_RX1_1 w_oi w_oc (by decide) (Nat.le_of_ble_eq_true rfl) ?_
  refine J_aload_n rfl rfl (show Dc Y_X1_init 4 (.aload_n 0) 1 5 from ⟨by decide +kernel, rfl⟩) ?_
  refine J_iload_n rfl rfl (show Dc Y_X1_init 5 (.iload_n 1) 1 6 from ⟨by decide +kernel, rfl⟩) ?_
  refine J_putI (show Dc Y_X1_init 6 (.putfield 7) 3 9 from ⟨by decide +kernel, rfl⟩) w_f_RX1_7 rfl rfl (fun g1 => ?_) (fun _ => rfl)
  exact J_ret0 (show Dc Y_X1_init 9 (.return_) 1 10 from ⟨by decide +kernel, rfl⟩) rfl (h0 _) (by decide) (by decide)

theorem c_X1_init {l : Launch} {D : ZD} {B0 : Nat} (x0 : Nat) (x1 : Int32) (g : ZS) : ∀ r, f_X1_init x0 x1 g = some r → zCt l D B0 yX1_init Y_X1_init [.ref x0, .int x1] g none r :=
  zCt_ofF (vo := fun _ => none) (so := fun r => r) (by decide +kernel) rfl (fun _ => rfl) rfl (Nat.le_of_ble_eq_true rfl) (fun X => j_X1_init x0 x1 g (fun _ h => h))

theorem j_X1_next_32 {X : ZX}  (s0 : Int32)  (g : ZS) {K : (Int32 × ZS) → Prop} (h0 : ∀ v g, K (v, g) → xK X (some (.int v)) g) : J Y_X1_next X 0 0 32 [none, none] [.int s0] g (f_X1_next_32 s0 g) K := by
  unfold f_X1_next_32
  exact J_reti (show Dc Y_X1_next 32 (.ireturn) 1 33 from ⟨by decide +kernel, rfl⟩) rfl (h0 _ _) (by decide) (by decide)

theorem j_X1_next {X : ZX} (x0 : Nat) (x1 : Int32)   (g : ZS) {K : (Int32 × ZS) → Prop} (h0 : ∀ v g, K (v, g) → xK X (some (.int v)) g) : J Y_X1_next X 0 0 0 [some (.ref x0), some (.int x1)] [] g (f_X1_next x0 x1 g) K := by
  unfold f_X1_next
  refine J_aload_n rfl rfl (show Dc Y_X1_next 0 (.aload_n 0) 1 1 from ⟨by decide +kernel, rfl⟩) ?_
  refine J_aload_n rfl rfl (show Dc Y_X1_next 1 (.aload_n 0) 1 2 from ⟨by decide +kernel, rfl⟩) ?_
  refine J_getI (show Dc Y_X1_next 2 (.getfield 7) 3 5 from ⟨by decide +kernel, rfl⟩) w_f_RX1_7 rfl (fun v1 => ?_)
  refine J_ldc (1103515245 : Int32) w_k_RX1_13 (show Dc Y_X1_next 5 (.ldc 13) 2 7 from ⟨by decide +kernel, rfl⟩) ?_
  refine J_imul (show Dc Y_X1_next 7 (.imul) 1 8 from ⟨by decide +kernel, rfl⟩) ?_
  refine J_sipush (12345 : Int32) rfl (show Dc Y_X1_next 8 (.sipush 12345) 3 11 from ⟨by decide +kernel, rfl⟩) ?_
  refine J_iadd (show Dc Y_X1_next 11 (.iadd) 1 12 from ⟨by decide +kernel, rfl⟩) ?_
  refine J_putI (show Dc Y_X1_next 12 (.putfield 7) 3 15 from ⟨by decide +kernel, rfl⟩) w_f_RX1_7 rfl rfl (fun g2 => ?_) (fun h => by cases h)
  refine J_iload_n rfl rfl (show Dc Y_X1_next 15 (.iload_n 1) 1 16 from ⟨by decide +kernel, rfl⟩) ?_
  refine J_if_le (tg := 31) (show Dc Y_X1_next 16 (.ifCond .le 15) 3 19 from ⟨by decide +kernel, rfl⟩) (by decide) (fun h => ?_) (fun h => ?_)
  · refine J_iconst (0 : Int32) rfl (show Dc Y_X1_next 31 (.iconst 0) 1 32 from ⟨by decide +kernel, rfl⟩) ?_
    refine J_mask [false, false] ?_
    exact j_X1_next_32 (0 : Int32) g2 h0
  · refine J_aload_n rfl rfl (show Dc Y_X1_next 19 (.aload_n 0) 1 20 from ⟨by decide +kernel, rfl⟩) ?_
    refine J_getI (show Dc Y_X1_next 20 (.getfield 7) 3 23 from ⟨by decide +kernel, rfl⟩) w_f_RX1_7 rfl (fun v3 => ?_)
    refine J_bipush (16 : Int32) rfl (show Dc Y_X1_next 23 (.bipush 16) 2 25 from ⟨by decide +kernel, rfl⟩) ?_
    refine J_iushr (show Dc Y_X1_next 25 (.iushr) 1 26 from ⟨by decide +kernel, rfl⟩) ?_
    refine J_iload_n rfl rfl (show Dc Y_X1_next 26 (.iload_n 1) 1 27 from ⟨by decide +kernel, rfl⟩) ?_
    refine J_irem (show Dc Y_X1_next 27 (.irem) 1 28 from ⟨by decide +kernel, rfl⟩) ?_
    refine J_goto (tg := 32) (show Dc Y_X1_next 28 (.goto 4) 3 31 from ⟨by decide +kernel, rfl⟩) (by decide) ?_
    refine J_mask [false, false] ?_
    exact j_X1_next_32 (((v3.toUInt32 >>> ((16 : Int32).toUInt32 &&& Int32.toUInt32 31)).toInt32) - ((v3.toUInt32 >>> ((16 : Int32).toUInt32 &&& Int32.toUInt32 31)).toInt32) / x1 * x1) g2 h0

theorem c_X1_next {l : Launch} {D : ZD} {B0 : Nat} (x0 : Nat) (x1 : Int32) (g : ZS) : ∀ r, f_X1_next x0 x1 g = some r → zCt l D B0 yX1_next Y_X1_next [.ref x0, .int x1] g (some (.int r.1)) r.2 :=
  zCt_ofF (vo := fun r => some (.int r.1)) (so := fun r => r.2) (by decide +kernel) rfl (fun h => by cases h) rfl (Nat.le_of_ble_eq_true rfl) (fun X => j_X1_next x0 x1 g (fun _ _ h => h))

theorem j_X11_drawAct_69 {X : ZX} (N : Nat)  (s0 : Int32)  (g : ZS) {K : (Int32 × ZS) → Prop} (h0 : ∀ v g, K (v, g) → xK X (some (.int v)) g) : J Y_X11_drawAct X 0 0 69 [none, none, none, none] [.int s0] g (f_X11_drawAct_69 N s0 g) K := by
  unfold f_X11_drawAct_69
  exact J_retZ (show Dc Y_X11_drawAct 69 (.ireturn) 1 70 from ⟨by decide +kernel, rfl⟩) rfl (h0 _ _) (by decide) (by decide)

theorem j_X11_drawAct_107 {X : ZX} (N : Nat)    (g : ZS) {K : (Int32 × ZS) → Prop} (h0 : ∀ v g, K (v, g) → xK X (some (.int v)) g) : J Y_X11_drawAct X 0 0 107 [none, none, none, none] [] g (f_X11_drawAct_107 N g) K := by
  unfold f_X11_drawAct_107
  refine J_iconst (0 : Int32) rfl (show Dc Y_X11_drawAct 107 (.iconst 0) 1 108 from ⟨by decide +kernel, rfl⟩) ?_
  exact J_retz rfl (show Dc Y_X11_drawAct 108 (.ireturn) 1 109 from ⟨by decide +kernel, rfl⟩) rfl (h0 _ _) (by decide) (by decide)

theorem j_X11_drawAct {X : ZX} (N : Nat) (x0 : Nat) (x1 : Nat)   (g : ZS) {K : (Int32 × ZS) → Prop} (h0 : ∀ v g, K (v, g) → xK X (some (.int v)) g) : J Y_X11_drawAct X 0 0 0 [some (.ref x0), some (.ref x1), none, none] [] g (f_X11_drawAct N x0 x1 g) K := by
  unfold f_X11_drawAct
  refine J_aload_n rfl rfl (show Dc Y_X11_drawAct 0 (.aload_n 1) 1 1 from ⟨by decide +kernel, rfl⟩) ?_
  refine J_iconst (5 : Int32) rfl (show Dc Y_X11_drawAct 1 (.iconst 5) 1 2 from ⟨by decide +kernel, rfl⟩) ?_
  refine J_callVi (fun r => r.1) (fun r => r.2) (show Dc Y_X11_drawAct 2 (.invokevirtual 454) 3 5 from ⟨by decide +kernel, rfl⟩) w_m_RX11_454 w_in_X1_next rfl w_se_X1_next w_cw_X1_next (c_X1_next x1 (5 : Int32) g) rfl rfl (by decide) (Nat.le_of_ble_eq_true rfl) (by decide) (by decide) (fun r1 => ?_)
  refine J_istore_n [some (.ref x0), some (.ref x1), some (.int r1.1), none] (show Dc Y_X11_drawAct 5 (.istore_n 2) 1 6 from ⟨by decide +kernel, rfl⟩) rfl (by decide) rfl rfl ?_
  refine J_iload_n rfl rfl (show Dc Y_X11_drawAct 6 (.iload_n 2) 1 7 from ⟨by decide +kernel, rfl⟩) ?_
  refine J_iconst (2 : Int32) rfl (show Dc Y_X11_drawAct 7 (.iconst 2) 1 8 from ⟨by decide +kernel, rfl⟩) ?_
  refine J_icmp_ge (tg := 23) (show Dc Y_X11_drawAct 8 (.if_icmp .ge 15) 3 11 from ⟨by decide +kernel, rfl⟩) (by decide) (fun h => ?_) (fun h => ?_)
  · refine J_aload_n rfl rfl (show Dc Y_X11_drawAct 23 (.aload_n 0) 1 24 from ⟨by decide +kernel, rfl⟩) ?_
    refine J_getR (show Dc Y_X11_drawAct 24 (.getfield 51) 3 27 from ⟨by decide +kernel, rfl⟩) w_f_RX11_51 rfl (fun v2 => ?_)
    refine J_getI (show Dc Y_X11_drawAct 27 (.getfield 146) 3 30 from ⟨by decide +kernel, rfl⟩) w_f_RX11_146 rfl (fun v3 => ?_)
    refine J_if_ne (tg := 35) (show Dc Y_X11_drawAct 30 (.ifCond .ne 5) 3 33 from ⟨by decide +kernel, rfl⟩) (by decide) (fun h => ?_) (fun h => ?_)
    · refine J_aload_n rfl rfl (show Dc Y_X11_drawAct 35 (.aload_n 1) 1 36 from ⟨by decide +kernel, rfl⟩) ?_
      refine J_aload_n rfl rfl (show Dc Y_X11_drawAct 36 (.aload_n 0) 1 37 from ⟨by decide +kernel, rfl⟩) ?_
      refine J_getR (show Dc Y_X11_drawAct 37 (.getfield 51) 3 40 from ⟨by decide +kernel, rfl⟩) w_f_RX11_51 rfl (fun v4 => ?_)
      refine J_getI (show Dc Y_X11_drawAct 40 (.getfield 146) 3 43 from ⟨by decide +kernel, rfl⟩) w_f_RX11_146 rfl (fun v5 => ?_)
      refine J_callVi (fun r => r.1) (fun r => r.2) (show Dc Y_X11_drawAct 43 (.invokevirtual 454) 3 46 from ⟨by decide +kernel, rfl⟩) w_m_RX11_454 w_in_X1_next rfl w_se_X1_next w_cw_X1_next (c_X1_next x1 v5 r1.2) rfl rfl (by decide) (Nat.le_of_ble_eq_true rfl) (by decide) (by decide) (fun r6 => ?_)
      refine J_istore_n [some (.ref x0), some (.ref x1), some (.int r1.1), some (.int r6.1)] (show Dc Y_X11_drawAct 46 (.istore_n 3) 1 47 from ⟨by decide +kernel, rfl⟩) rfl (by decide) rfl rfl ?_
      refine J_iload_n rfl rfl (show Dc Y_X11_drawAct 47 (.iload_n 2) 1 48 from ⟨by decide +kernel, rfl⟩) ?_
      refine J_iconst (2 : Int32) rfl (show Dc Y_X11_drawAct 48 (.iconst 2) 1 49 from ⟨by decide +kernel, rfl⟩) ?_
      refine J_icmp_ne (tg := 70) (show Dc Y_X11_drawAct 49 (.if_icmp .ne 21) 3 52 from ⟨by decide +kernel, rfl⟩) (by decide) (fun h => ?_) (fun h => ?_)
      · refine J_iload_n rfl rfl (show Dc Y_X11_drawAct 70 (.iload_n 2) 1 71 from ⟨by decide +kernel, rfl⟩) ?_
        refine J_iconst (3 : Int32) rfl (show Dc Y_X11_drawAct 71 (.iconst 3) 1 72 from ⟨by decide +kernel, rfl⟩) ?_
        refine J_icmp_ne (tg := 92) (show Dc Y_X11_drawAct 72 (.if_icmp .ne 20) 3 75 from ⟨by decide +kernel, rfl⟩) (by decide) (fun h => ?_) (fun h => ?_)
        · refine J_aload_n rfl rfl (show Dc Y_X11_drawAct 92 (.aload_n 0) 1 93 from ⟨by decide +kernel, rfl⟩) ?_
          refine J_getR (show Dc Y_X11_drawAct 93 (.getfield 51) 3 96 from ⟨by decide +kernel, rfl⟩) w_f_RX11_51 rfl (fun v7 => ?_)
          refine J_iload_n rfl rfl (show Dc Y_X11_drawAct 96 (.iload_n 3) 1 97 from ⟨by decide +kernel, rfl⟩) ?_
          refine J_aload_n rfl rfl (show Dc Y_X11_drawAct 97 (.aload_n 1) 1 98 from ⟨by decide +kernel, rfl⟩) ?_
          refine J_bipush (8 : Int32) rfl (show Dc Y_X11_drawAct 98 (.bipush 8) 2 100 from ⟨by decide +kernel, rfl⟩) ?_
          refine J_callVi (fun r => r.1) (fun r => r.2) (show Dc Y_X11_drawAct 100 (.invokevirtual 454) 3 103 from ⟨by decide +kernel, rfl⟩) w_m_RX11_454 w_in_X1_next rfl w_se_X1_next w_cw_X1_next (c_X1_next x1 (8 : Int32) r6.2) rfl rfl (by decide) (Nat.le_of_ble_eq_true rfl) (by decide) (by decide) (fun r8 => ?_)
          refine J_callSi (fun r => r.1) (fun r => r.2) (show Dc Y_X11_drawAct 103 (.invokestatic 283) 3 106 from ⟨by decide +kernel, rfl⟩) w_m_RX11_283 w_st_X11_feed w_cw_X11_feed (c_X11_feed v7 r6.1 r8.1 r8.2) rfl rfl (by decide) (Nat.le_of_ble_eq_true rfl) (by decide) (by decide) (fun r9 => ?_)
          refine J_pop rfl (show Dc Y_X11_drawAct 106 (.pop) 1 107 from ⟨by decide +kernel, rfl⟩) ?_
          refine J_mask [false, false, false, false] ?_
          exact j_X11_drawAct_107 N r9.2 h0
        · refine J_aload_n rfl rfl (show Dc Y_X11_drawAct 75 (.aload_n 0) 1 76 from ⟨by decide +kernel, rfl⟩) ?_
          refine J_getR (show Dc Y_X11_drawAct 76 (.getfield 51) 3 79 from ⟨by decide +kernel, rfl⟩) w_f_RX11_51 rfl (fun v10 => ?_)
          refine J_iload_n rfl rfl (show Dc Y_X11_drawAct 79 (.iload_n 3) 1 80 from ⟨by decide +kernel, rfl⟩) ?_
          refine J_aload_n rfl rfl (show Dc Y_X11_drawAct 80 (.aload_n 1) 1 81 from ⟨by decide +kernel, rfl⟩) ?_
          refine J_iconst (4 : Int32) rfl (show Dc Y_X11_drawAct 81 (.iconst 4) 1 82 from ⟨by decide +kernel, rfl⟩) ?_
          refine J_callVi (fun r => r.1) (fun r => r.2) (show Dc Y_X11_drawAct 82 (.invokevirtual 454) 3 85 from ⟨by decide +kernel, rfl⟩) w_m_RX11_454 w_in_X1_next rfl w_se_X1_next w_cw_X1_next (c_X1_next x1 (4 : Int32) r6.2) rfl rfl (by decide) (Nat.le_of_ble_eq_true rfl) (by decide) (by decide) (fun r11 => ?_)
          refine J_callSi (fun r => r.1) (fun r => r.2) (show Dc Y_X11_drawAct 85 (.invokestatic 271) 3 88 from ⟨by decide +kernel, rfl⟩) w_m_RX11_271 w_st_X11_bring w_cw_X11_bring (c_X11_bring v10 r6.1 r11.1 r11.2) rfl rfl (by decide) (Nat.le_of_ble_eq_true rfl) (by decide) (by decide) (fun r12 => ?_)
          refine J_pop rfl (show Dc Y_X11_drawAct 88 (.pop) 1 89 from ⟨by decide +kernel, rfl⟩) ?_
          refine J_goto (tg := 107) (show Dc Y_X11_drawAct 89 (.goto 18) 3 92 from ⟨by decide +kernel, rfl⟩) (by decide) ?_
          refine J_mask [false, false, false, false] ?_
          exact j_X11_drawAct_107 N r12.2 h0
      · refine J_aload_n rfl rfl (show Dc Y_X11_drawAct 52 (.aload_n 0) 1 53 from ⟨by decide +kernel, rfl⟩) ?_
        refine J_aload_n rfl rfl (show Dc Y_X11_drawAct 53 (.aload_n 0) 1 54 from ⟨by decide +kernel, rfl⟩) ?_
        refine J_getR (show Dc Y_X11_drawAct 54 (.getfield 51) 3 57 from ⟨by decide +kernel, rfl⟩) w_f_RX11_51 rfl (fun v13 => ?_)
        refine J_iload_n rfl rfl (show Dc Y_X11_drawAct 57 (.iload_n 3) 1 58 from ⟨by decide +kernel, rfl⟩) ?_
        refine J_callVi (fun r => r.1) (fun r => r.2) (show Dc Y_X11_drawAct 58 (.invokevirtual 286) 3 61 from ⟨by decide +kernel, rfl⟩) w_m_RX11_286 w_in_X11_utter rfl w_se_X11_utter w_cw_X11_utter (c_X11_utter N x0 v13 r6.1 r6.2) rfl rfl (by decide) (Nat.le_of_ble_eq_true rfl) (by decide) (by decide) (fun r14 => ?_)
        refine J_if_lt (tg := 68) (show Dc Y_X11_drawAct 61 (.ifCond .lt 7) 3 64 from ⟨by decide +kernel, rfl⟩) (by decide) (fun h => ?_) (fun h => ?_)
        · refine J_iconst (0 : Int32) rfl (show Dc Y_X11_drawAct 68 (.iconst 0) 1 69 from ⟨by decide +kernel, rfl⟩) ?_
          refine J_mask [false, false, false, false] ?_
          exact j_X11_drawAct_69 N (0 : Int32) r14.2 h0
        · refine J_iconst (1 : Int32) rfl (show Dc Y_X11_drawAct 64 (.iconst 1) 1 65 from ⟨by decide +kernel, rfl⟩) ?_
          refine J_goto (tg := 69) (show Dc Y_X11_drawAct 65 (.goto 4) 3 68 from ⟨by decide +kernel, rfl⟩) (by decide) ?_
          refine J_mask [false, false, false, false] ?_
          exact j_X11_drawAct_69 N (1 : Int32) r14.2 h0
    · refine J_iconst (0 : Int32) rfl (show Dc Y_X11_drawAct 33 (.iconst 0) 1 34 from ⟨by decide +kernel, rfl⟩) ?_
      exact J_retz rfl (show Dc Y_X11_drawAct 34 (.ireturn) 1 35 from ⟨by decide +kernel, rfl⟩) rfl (h0 _ _) (by decide) (by decide)
  · refine J_aload_n rfl rfl (show Dc Y_X11_drawAct 11 (.aload_n 0) 1 12 from ⟨by decide +kernel, rfl⟩) ?_
    refine J_aload_n rfl rfl (show Dc Y_X11_drawAct 12 (.aload_n 0) 1 13 from ⟨by decide +kernel, rfl⟩) ?_
    refine J_getR (show Dc Y_X11_drawAct 13 (.getfield 51) 3 16 from ⟨by decide +kernel, rfl⟩) w_f_RX11_51 rfl (fun v15 => ?_)
    refine J_iconst (1 : Int32) rfl (show Dc Y_X11_drawAct 16 (.iconst 1) 1 17 from ⟨by decide +kernel, rfl⟩) ?_
    refine J_callVi (fun r => r.1) (fun r => r.2) (show Dc Y_X11_drawAct 17 (.invokevirtual 248) 3 20 from ⟨by decide +kernel, rfl⟩) w_m_RX11_248 w_in_X11_passDays rfl w_se_X11_passDays w_cw_X11_passDays (c_X11_passDays N x0 v15 (1 : Int32) r1.2) rfl rfl (by decide) (Nat.le_of_ble_eq_true rfl) (by decide) (by decide) (fun r16 => ?_)
    refine J_pop rfl (show Dc Y_X11_drawAct 20 (.pop) 1 21 from ⟨by decide +kernel, rfl⟩) ?_
    refine J_iconst (0 : Int32) rfl (show Dc Y_X11_drawAct 21 (.iconst 0) 1 22 from ⟨by decide +kernel, rfl⟩) ?_
    exact J_retz rfl (show Dc Y_X11_drawAct 22 (.ireturn) 1 23 from ⟨by decide +kernel, rfl⟩) rfl (h0 _ _) (by decide) (by decide)

theorem c_X11_drawAct {l : Launch} {D : ZD} {B0 : Nat} (N : Nat) (x0 : Nat) (x1 : Nat) (g : ZS) : ∀ r, f_X11_drawAct N x0 x1 g = some r → zCt l D B0 yX11_drawAct Y_X11_drawAct [.ref x0, .ref x1] g (some (.int r.1)) r.2 :=
  zCt_ofF (vo := fun r => some (.int r.1)) (so := fun r => r.2) (by decide +kernel) rfl (fun h => by cases h) rfl (Nat.le_of_ble_eq_true rfl) (fun X => j_X11_drawAct N x0 x1 g (fun _ _ h => h))

theorem j_X6_heard_4 {X : ZX} (N : Nat) (x0 : Nat) (x1 : Int32) (x2 : Int32)   (g : ZS) {K : ((Int32 × Int32) ⊕ Int32) → Prop} (h0 : ∀ v, K (.inr v) → xK X (some (.int v)) g) (hL4 : ∀ s, K (.inl s) → zG Y_X6_heard X 0 0 4 [some (.ref x0), some (.int s.1), some (.int s.2)] [] g) : J Y_X6_heard X 0 0 4 [some (.ref x0), some (.int x1), some (.int x2)] [] g (f_X6_heard_4 N x0 x1 x2 g) K := by
  unfold f_X6_heard_4
  refine J_iload_n rfl rfl (show Dc Y_X6_heard 4 (.iload_n 2) 1 5 from ⟨by decide +kernel, rfl⟩) ?_
  refine J_aload_n rfl rfl (show Dc Y_X6_heard 5 (.aload_n 0) 1 6 from ⟨by decide +kernel, rfl⟩) ?_
  refine J_getI (show Dc Y_X6_heard 6 (.getfield 18) 3 9 from ⟨by decide +kernel, rfl⟩) w_f_RX6_18 rfl (fun v1 => ?_)
  refine J_icmp_ge (tg := 30) (show Dc Y_X6_heard 9 (.if_icmp .ge 21) 3 12 from ⟨by decide +kernel, rfl⟩) (by decide) (fun h => ?_) (fun h => ?_)
  · refine J_map (f := Sum.inr) (fun _ h => h) ?_
    refine J_iload_n rfl rfl (show Dc Y_X6_heard 30 (.iload_n 1) 1 31 from ⟨by decide +kernel, rfl⟩) ?_
    exact J_reti (show Dc Y_X6_heard 31 (.ireturn) 1 32 from ⟨by decide +kernel, rfl⟩) rfl (h0 _) (by decide) (by decide)
  · refine J_iload_n rfl rfl (show Dc Y_X6_heard 12 (.iload_n 1) 1 13 from ⟨by decide +kernel, rfl⟩) ?_
    refine J_aload_n rfl rfl (show Dc Y_X6_heard 13 (.aload_n 0) 1 14 from ⟨by decide +kernel, rfl⟩) ?_
    refine J_getR (show Dc Y_X6_heard 14 (.getfield 11) 3 17 from ⟨by decide +kernel, rfl⟩) w_f_RX6_11 rfl (fun v2 => ?_)
    refine J_iload_n rfl rfl (show Dc Y_X6_heard 17 (.iload_n 2) 1 18 from ⟨by decide +kernel, rfl⟩) ?_
    refine J_aald (kd := 25) (by decide) (by decide) (show Dc Y_X6_heard 18 (.aaload) 1 19 from ⟨by decide +kernel, rfl⟩) (fun v3 => ?_)
    refine J_getI (show Dc Y_X6_heard 19 (.getfield 46) 3 22 from ⟨by decide +kernel, rfl⟩) w_f_RX6_46 rfl (fun v4 => ?_)
    refine J_iadd (show Dc Y_X6_heard 22 (.iadd) 1 23 from ⟨by decide +kernel, rfl⟩) ?_
    refine J_istore_n [some (.ref x0), some (.int (x1 + v4)), some (.int x2)] (show Dc Y_X6_heard 23 (.istore_n 1) 1 24 from ⟨by decide +kernel, rfl⟩) rfl (by decide) rfl rfl ?_
    refine J_iinc (1 : Int32) [some (.ref x0), some (.int (x1 + v4)), some (.int (x2 + (1 : Int32)))] (show Dc Y_X6_heard 24 (.iinc 2 1) 3 27 from ⟨by decide +kernel, rfl⟩) rfl rfl (by decide) rfl rfl ?_
    refine J_goto (tg := 4) (show Dc Y_X6_heard 27 (.goto (-23)) 3 30 from ⟨by decide +kernel, rfl⟩) (by decide) ?_
    exact J_leaf (fun h => hL4 (x1 + v4, x2 + (1 : Int32)) h)

theorem j_X6_heard {X : ZX} (N : Nat) (x0 : Nat)   (g : ZS) {K : Int32 → Prop} (h0 : ∀ v, K v → xK X (some (.int v)) g) : J Y_X6_heard X 0 0 0 [some (.ref x0), none, none] [] g (f_X6_heard N x0 g) K := by
  unfold f_X6_heard
  refine J_iconst (0 : Int32) rfl (show Dc Y_X6_heard 0 (.iconst 0) 1 1 from ⟨by decide +kernel, rfl⟩) ?_
  refine J_istore_n [some (.ref x0), some (.int (0 : Int32)), none] (show Dc Y_X6_heard 1 (.istore_n 1) 1 2 from ⟨by decide +kernel, rfl⟩) rfl (by decide) rfl rfl ?_
  refine J_iconst (0 : Int32) rfl (show Dc Y_X6_heard 2 (.iconst 0) 1 3 from ⟨by decide +kernel, rfl⟩) ?_
  refine J_istore_n [some (.ref x0), some (.int (0 : Int32)), some (.int (0 : Int32))] (show Dc Y_X6_heard 3 (.istore_n 2) 1 4 from ⟨by decide +kernel, rfl⟩) rfl (by decide) rfl rfl ?_
  exact J_loop (X := X) (K := K) (uc := fun _ => 0) (us := fun _ => 0) (lf := fun s => [some (.ref x0), some (.int s.1), some (.int s.2)]) (gf := fun s => g) (fun s => j_X6_heard_4 (K := zKl Y_X6_heard X 4 (fun _ => 0) (fun _ => 0) (fun s => [some (.ref x0), some (.int s.1), some (.int s.2)]) (fun s => g) K) N x0 s.1 s.2 g h0 (fun s h => h)) N ((0 : Int32), (0 : Int32))

theorem c_X6_heard {l : Launch} {D : ZD} {B0 : Nat} (N : Nat) (x0 : Nat) (g : ZS) : ∀ r, f_X6_heard N x0 g = some r → zCt l D B0 yX6_heard Y_X6_heard [.ref x0] g (some (.int r)) g :=
  zCt_ofF (vo := fun r => some (.int r)) (so := fun _ => g) (by decide +kernel) rfl (fun h => by cases h) rfl (Nat.le_of_ble_eq_true rfl) (fun X => j_X6_heard N x0 g (fun _ h => h))

theorem j_X12_draw {X : ZX} (x0 : Nat) (x1 : Int32)   (g : ZS) {K : (Int32 × ZS) → Prop} (h0 : ∀ v g, K (v, g) → xK X (some (.int v)) g) : J Y_X12_draw X 0 0 0 [some (.ref x0), some (.int x1)] [] g (f_X12_draw x0 x1 g) K := by
  unfold f_X12_draw
  refine J_aload_n rfl rfl (show Dc Y_X12_draw 0 (.aload_n 0) 1 1 from ⟨by decide +kernel, rfl⟩) ?_
  refine J_aload_n rfl rfl (show Dc Y_X12_draw 1 (.aload_n 0) 1 2 from ⟨by decide +kernel, rfl⟩) ?_
  refine J_getI (show Dc Y_X12_draw 2 (.getfield 391) 3 5 from ⟨by decide +kernel, rfl⟩) w_f_RX12_391 rfl (fun v1 => ?_)
  refine J_ldcw (1103515245 : Int32) w_k_RX12_394 (show Dc Y_X12_draw 5 (.ldc_w 394) 3 8 from ⟨by decide +kernel, rfl⟩) ?_
  refine J_imul (show Dc Y_X12_draw 8 (.imul) 1 9 from ⟨by decide +kernel, rfl⟩) ?_
  refine J_sipush (12345 : Int32) rfl (show Dc Y_X12_draw 9 (.sipush 12345) 3 12 from ⟨by decide +kernel, rfl⟩) ?_
  refine J_iadd (show Dc Y_X12_draw 12 (.iadd) 1 13 from ⟨by decide +kernel, rfl⟩) ?_
  refine J_putI (show Dc Y_X12_draw 13 (.putfield 391) 3 16 from ⟨by decide +kernel, rfl⟩) w_f_RX12_391 rfl rfl (fun g2 => ?_) (fun h => by cases h)
  refine J_aload_n rfl rfl (show Dc Y_X12_draw 16 (.aload_n 0) 1 17 from ⟨by decide +kernel, rfl⟩) ?_
  refine J_getI (show Dc Y_X12_draw 17 (.getfield 391) 3 20 from ⟨by decide +kernel, rfl⟩) w_f_RX12_391 rfl (fun v3 => ?_)
  refine J_bipush (16 : Int32) rfl (show Dc Y_X12_draw 20 (.bipush 16) 2 22 from ⟨by decide +kernel, rfl⟩) ?_
  refine J_iushr (show Dc Y_X12_draw 22 (.iushr) 1 23 from ⟨by decide +kernel, rfl⟩) ?_
  refine J_iload_n rfl rfl (show Dc Y_X12_draw 23 (.iload_n 1) 1 24 from ⟨by decide +kernel, rfl⟩) ?_
  refine J_irem (show Dc Y_X12_draw 24 (.irem) 1 25 from ⟨by decide +kernel, rfl⟩) ?_
  exact J_reti (show Dc Y_X12_draw 25 (.ireturn) 1 26 from ⟨by decide +kernel, rfl⟩) rfl (h0 _ _) (by decide) (by decide)

theorem c_X12_draw {l : Launch} {D : ZD} {B0 : Nat} (x0 : Nat) (x1 : Int32) (g : ZS) : ∀ r, f_X12_draw x0 x1 g = some r → zCt l D B0 yX12_draw Y_X12_draw [.ref x0, .int x1] g (some (.int r.1)) r.2 :=
  zCt_ofF (vo := fun r => some (.int r.1)) (so := fun r => r.2) (by decide +kernel) rfl (fun h => by cases h) rfl (Nat.le_of_ble_eq_true rfl) (fun X => j_X12_draw x0 x1 g (fun _ _ h => h))

theorem j_X12_keep {X : ZX} (N : Nat) (x0 : Nat) (x1 : Int32)   (g : ZS) {K : (Int32 × ZS) → Prop} (h0 : ∀ v g, K (v, g) → xK X (some (.int v)) g) : J Y_X12_keep X 0 0 0 [some (.ref x0), some (.int x1)] [] g (f_X12_keep N x0 x1 g) K := by
  unfold f_X12_keep
  refine J_aload_n rfl rfl (show Dc Y_X12_keep 0 (.aload_n 0) 1 1 from ⟨by decide +kernel, rfl⟩) ?_
  refine J_iconst (0 : Int32) rfl (show Dc Y_X12_keep 1 (.iconst 0) 1 2 from ⟨by decide +kernel, rfl⟩) ?_
  refine J_putI (show Dc Y_X12_keep 2 (.putfield 109) 3 5 from ⟨by decide +kernel, rfl⟩) w_f_RX12_109 rfl rfl (fun g1 => ?_) (fun h => by cases h)
  refine J_iload_n rfl rfl (show Dc Y_X12_keep 5 (.iload_n 1) 1 6 from ⟨by decide +kernel, rfl⟩) ?_
  refine J_iconst (0 : Int32) rfl (show Dc Y_X12_keep 6 (.iconst 0) 1 7 from ⟨by decide +kernel, rfl⟩) ?_
  refine J_iconst (1 : Int32) rfl (show Dc Y_X12_keep 7 (.iconst 1) 1 8 from ⟨by decide +kernel, rfl⟩) ?_
  refine J_callSi (fun r => r) (fun _ => g1) (show Dc Y_X12_keep 8 (.invokestatic 119) 3 11 from ⟨by decide +kernel, rfl⟩) w_m_RX12_119 w_st_X12_in w_cw_X12_in (c_X12_in x1 (0 : Int32) (1 : Int32) g1) rfl rfl (by decide) (Nat.le_of_ble_eq_true rfl) (by decide) (by decide) (fun v2 => ?_)
  refine J_if_ne (tg := 16) (show Dc Y_X12_keep 11 (.ifCond .ne 5) 3 14 from ⟨by decide +kernel, rfl⟩) (by decide) (fun h => ?_) (fun h => ?_)
  · refine J_aload_n rfl rfl (show Dc Y_X12_keep 16 (.aload_n 0) 1 17 from ⟨by decide +kernel, rfl⟩) ?_
    refine J_getR (show Dc Y_X12_keep 17 (.getfield 102) 3 20 from ⟨by decide +kernel, rfl⟩) w_f_RX12_102 rfl (fun v3 => ?_)
    refine J_iload_n rfl rfl (show Dc Y_X12_keep 20 (.iload_n 1) 1 21 from ⟨by decide +kernel, rfl⟩) ?_
    refine J_iconst (1 : Int32) rfl (show Dc Y_X12_keep 21 (.iconst 1) 1 22 from ⟨by decide +kernel, rfl⟩) ?_
    refine J_zast (show Dc Y_X12_keep 22 (.bastore) 1 23 from ⟨by decide +kernel, rfl⟩) (fun g4 => ?_)
    refine J_aload_n rfl rfl (show Dc Y_X12_keep 23 (.aload_n 0) 1 24 from ⟨by decide +kernel, rfl⟩) ?_
    refine J_getR (show Dc Y_X12_keep 24 (.getfield 106) 3 27 from ⟨by decide +kernel, rfl⟩) w_f_RX12_106 rfl (fun v5 => ?_)
    refine J_iload_n rfl rfl (show Dc Y_X12_keep 27 (.iload_n 1) 1 28 from ⟨by decide +kernel, rfl⟩) ?_
    refine J_aload_n rfl rfl (show Dc Y_X12_keep 28 (.aload_n 0) 1 29 from ⟨by decide +kernel, rfl⟩) ?_
    refine J_getI (show Dc Y_X12_keep 29 (.getfield 186) 3 32 from ⟨by decide +kernel, rfl⟩) w_f_RX12_186 rfl (fun v6 => ?_)
    refine J_iast (show Dc Y_X12_keep 32 (.iastore) 1 33 from ⟨by decide +kernel, rfl⟩) (fun g7 => ?_)
    refine J_aload_n rfl rfl (show Dc Y_X12_keep 33 (.aload_n 0) 1 34 from ⟨by decide +kernel, rfl⟩) ?_
    refine J_getR (show Dc Y_X12_keep 34 (.getfield 9) 3 37 from ⟨by decide +kernel, rfl⟩) w_f_RX12_9 rfl (fun v8 => ?_)
    refine J_aload_n rfl rfl (show Dc Y_X12_keep 37 (.aload_n 0) 1 38 from ⟨by decide +kernel, rfl⟩) ?_
    refine J_getR (show Dc Y_X12_keep 38 (.getfield 99) 3 41 from ⟨by decide +kernel, rfl⟩) w_f_RX12_99 rfl (fun v9 => ?_)
    refine J_sipush (217 : Int32) rfl (show Dc Y_X12_keep 41 (.sipush 217) 3 44 from ⟨by decide +kernel, rfl⟩) ?_
    refine J_iload_n rfl rfl (show Dc Y_X12_keep 44 (.iload_n 1) 1 45 from ⟨by decide +kernel, rfl⟩) ?_
    refine J_imul (show Dc Y_X12_keep 45 (.imul) 1 46 from ⟨by decide +kernel, rfl⟩) ?_
    refine J_callSv (fun r => r) (show Dc Y_X12_keep 46 (.invokestatic 253) 3 49 from ⟨by decide +kernel, rfl⟩) w_m_RX12_253 w_st_X12_lay w_cw_X12_lay (c_X12_lay N v8 v9 ((217 : Int32) * x1) g7) rfl rfl (by decide) (Nat.le_of_ble_eq_true rfl) (by decide) (by decide) (fun g10 => ?_)
    refine J_iconst (1 : Int32) rfl (show Dc Y_X12_keep 49 (.iconst 1) 1 50 from ⟨by decide +kernel, rfl⟩) ?_
    exact J_retz rfl (show Dc Y_X12_keep 50 (.ireturn) 1 51 from ⟨by decide +kernel, rfl⟩) rfl (h0 _ _) (by decide) (by decide)
  · refine J_iconst (0 : Int32) rfl (show Dc Y_X12_keep 14 (.iconst 0) 1 15 from ⟨by decide +kernel, rfl⟩) ?_
    exact J_retz rfl (show Dc Y_X12_keep 15 (.ireturn) 1 16 from ⟨by decide +kernel, rfl⟩) rfl (h0 _ _) (by decide) (by decide)

theorem c_X12_keep {l : Launch} {D : ZD} {B0 : Nat} (N : Nat) (x0 : Nat) (x1 : Int32) (g : ZS) : ∀ r, f_X12_keep N x0 x1 g = some r → zCt l D B0 yX12_keep Y_X12_keep [.ref x0, .int x1] g (some (.int r.1)) r.2 :=
  zCt_ofF (vo := fun r => some (.int r.1)) (so := fun r => r.2) (by decide +kernel) rfl (fun h => by cases h) rfl (Nat.le_of_ble_eq_true rfl) (fun X => j_X12_keep N x0 x1 g (fun _ _ h => h))

theorem j_X12_again_36 {X : ZX} (N : Nat)    (g : ZS) {K : (Int32 × ZS) → Prop} (h0 : ∀ v g, K (v, g) → xK X (some (.int v)) g) : J Y_X12_again X 0 0 36 [none, none, none] [] g (f_X12_again_36 N g) K := by
  unfold f_X12_again_36
  refine J_iconst (0 : Int32) rfl (show Dc Y_X12_again 36 (.iconst 0) 1 37 from ⟨by decide +kernel, rfl⟩) ?_
  exact J_retz rfl (show Dc Y_X12_again 37 (.ireturn) 1 38 from ⟨by decide +kernel, rfl⟩) rfl (h0 _ _) (by decide) (by decide)

theorem j_X12_again_40 {X : ZX} (N : Nat) (x0 : Nat) (x1 : Int32) (x2 : Int32)   (g : ZS) {K : ((Int32 × ZS) ⊕ (Int32 × ZS)) → Prop} (h0 : ∀ v g, K (.inr (v, g)) → xK X (some (.int v)) g) (hL40 : ∀ s, K (.inl s) → zG Y_X12_again X 0 0 40 [some (.ref x0), some (.int x1), some (.int s.1)] [] s.2) : J Y_X12_again X 0 0 40 [some (.ref x0), some (.int x1), some (.int x2)] [] g (f_X12_again_40 N x0 x1 x2 g) K := by
  unfold f_X12_again_40
  refine J_iload_n rfl rfl (show Dc Y_X12_again 40 (.iload_n 2) 1 41 from ⟨by decide +kernel, rfl⟩) ?_
  refine J_sipush (217 : Int32) rfl (show Dc Y_X12_again 41 (.sipush 217) 3 44 from ⟨by decide +kernel, rfl⟩) ?_
  refine J_icmp_ge (tg := 71) (show Dc Y_X12_again 44 (.if_icmp .ge 27) 3 47 from ⟨by decide +kernel, rfl⟩) (by decide) (fun h => ?_) (fun h => ?_)
  · refine J_map (f := Sum.inr) (fun _ h => h) ?_
    refine J_aload_n rfl rfl (show Dc Y_X12_again 71 (.aload_n 0) 1 72 from ⟨by decide +kernel, rfl⟩) ?_
    refine J_iconst (0 : Int32) rfl (show Dc Y_X12_again 72 (.iconst 0) 1 73 from ⟨by decide +kernel, rfl⟩) ?_
    refine J_putI (show Dc Y_X12_again 73 (.putfield 183) 3 76 from ⟨by decide +kernel, rfl⟩) w_f_RX12_183 rfl rfl (fun g1 => ?_) (fun h => by cases h)
    refine J_iconst (1 : Int32) rfl (show Dc Y_X12_again 76 (.iconst 1) 1 77 from ⟨by decide +kernel, rfl⟩) ?_
    exact J_retz rfl (show Dc Y_X12_again 77 (.ireturn) 1 78 from ⟨by decide +kernel, rfl⟩) rfl (h0 _ _) (by decide) (by decide)
  · refine J_aload_n rfl rfl (show Dc Y_X12_again 47 (.aload_n 0) 1 48 from ⟨by decide +kernel, rfl⟩) ?_
    refine J_getR (show Dc Y_X12_again 48 (.getfield 9) 3 51 from ⟨by decide +kernel, rfl⟩) w_f_RX12_9 rfl (fun v2 => ?_)
    refine J_iload_n rfl rfl (show Dc Y_X12_again 51 (.iload_n 2) 1 52 from ⟨by decide +kernel, rfl⟩) ?_
    refine J_aload_n rfl rfl (show Dc Y_X12_again 52 (.aload_n 0) 1 53 from ⟨by decide +kernel, rfl⟩) ?_
    refine J_getR (show Dc Y_X12_again 53 (.getfield 99) 3 56 from ⟨by decide +kernel, rfl⟩) w_f_RX12_99 rfl (fun v3 => ?_)
    refine J_sipush (217 : Int32) rfl (show Dc Y_X12_again 56 (.sipush 217) 3 59 from ⟨by decide +kernel, rfl⟩) ?_
    refine J_iload_n rfl rfl (show Dc Y_X12_again 59 (.iload_n 1) 1 60 from ⟨by decide +kernel, rfl⟩) ?_
    refine J_imul (show Dc Y_X12_again 60 (.imul) 1 61 from ⟨by decide +kernel, rfl⟩) ?_
    refine J_iload_n rfl rfl (show Dc Y_X12_again 61 (.iload_n 2) 1 62 from ⟨by decide +kernel, rfl⟩) ?_
    refine J_iadd (show Dc Y_X12_again 62 (.iadd) 1 63 from ⟨by decide +kernel, rfl⟩) ?_
    refine J_iald (show Dc Y_X12_again 63 (.iaload) 1 64 from ⟨by decide +kernel, rfl⟩) (fun v4 => ?_)
    refine J_iast (show Dc Y_X12_again 64 (.iastore) 1 65 from ⟨by decide +kernel, rfl⟩) (fun g5 => ?_)
    refine J_iinc (1 : Int32) [some (.ref x0), some (.int x1), some (.int (x2 + (1 : Int32)))] (show Dc Y_X12_again 65 (.iinc 2 1) 3 68 from ⟨by decide +kernel, rfl⟩) rfl rfl (by decide) rfl rfl ?_
    refine J_goto (tg := 40) (show Dc Y_X12_again 68 (.goto (-28)) 3 71 from ⟨by decide +kernel, rfl⟩) (by decide) ?_
    exact J_leaf (fun h => hL40 (x2 + (1 : Int32), g5) h)

theorem j_X12_again {X : ZX} (N : Nat) (x0 : Nat) (x1 : Int32)   (g : ZS) {K : (Int32 × ZS) → Prop} (h0 : ∀ v g, K (v, g) → xK X (some (.int v)) g) : J Y_X12_again X 0 0 0 [some (.ref x0), some (.int x1), none] [] g (f_X12_again N x0 x1 g) K := by
  unfold f_X12_again
  refine J_aload_n rfl rfl (show Dc Y_X12_again 0 (.aload_n 0) 1 1 from ⟨by decide +kernel, rfl⟩) ?_
  refine J_iconst (0 : Int32) rfl (show Dc Y_X12_again 1 (.iconst 0) 1 2 from ⟨by decide +kernel, rfl⟩) ?_
  refine J_putI (show Dc Y_X12_again 2 (.putfield 109) 3 5 from ⟨by decide +kernel, rfl⟩) w_f_RX12_109 rfl rfl (fun g1 => ?_) (fun h => by cases h)
  refine J_iload_n rfl rfl (show Dc Y_X12_again 5 (.iload_n 1) 1 6 from ⟨by decide +kernel, rfl⟩) ?_
  refine J_iconst (0 : Int32) rfl (show Dc Y_X12_again 6 (.iconst 0) 1 7 from ⟨by decide +kernel, rfl⟩) ?_
  refine J_iconst (1 : Int32) rfl (show Dc Y_X12_again 7 (.iconst 1) 1 8 from ⟨by decide +kernel, rfl⟩) ?_
  refine J_callSi (fun r => r) (fun _ => g1) (show Dc Y_X12_again 8 (.invokestatic 119) 3 11 from ⟨by decide +kernel, rfl⟩) w_m_RX12_119 w_st_X12_in w_cw_X12_in (c_X12_in x1 (0 : Int32) (1 : Int32) g1) rfl rfl (by decide) (Nat.le_of_ble_eq_true rfl) (by decide) (by decide) (fun v2 => ?_)
  refine J_if_eq (tg := 36) (show Dc Y_X12_again 11 (.ifCond .eq 25) 3 14 from ⟨by decide +kernel, rfl⟩) (by decide) (fun h => ?_) (fun h => ?_)
  · refine J_mask [false, false, false] ?_
    exact j_X12_again_36 N g1 h0
  · refine J_aload_n rfl rfl (show Dc Y_X12_again 14 (.aload_n 0) 1 15 from ⟨by decide +kernel, rfl⟩) ?_
    refine J_getR (show Dc Y_X12_again 15 (.getfield 102) 3 18 from ⟨by decide +kernel, rfl⟩) w_f_RX12_102 rfl (fun v3 => ?_)
    refine J_iload_n rfl rfl (show Dc Y_X12_again 18 (.iload_n 1) 1 19 from ⟨by decide +kernel, rfl⟩) ?_
    refine J_zald (show Dc Y_X12_again 19 (.baload) 1 20 from ⟨by decide +kernel, rfl⟩) (fun v4 => ?_)
    refine J_if_eq (tg := 36) (show Dc Y_X12_again 20 (.ifCond .eq 16) 3 23 from ⟨by decide +kernel, rfl⟩) (by decide) (fun h => ?_) (fun h => ?_)
    · refine J_mask [false, false, false] ?_
      exact j_X12_again_36 N g1 h0
    · refine J_aload_n rfl rfl (show Dc Y_X12_again 23 (.aload_n 0) 1 24 from ⟨by decide +kernel, rfl⟩) ?_
      refine J_getR (show Dc Y_X12_again 24 (.getfield 106) 3 27 from ⟨by decide +kernel, rfl⟩) w_f_RX12_106 rfl (fun v5 => ?_)
      refine J_iload_n rfl rfl (show Dc Y_X12_again 27 (.iload_n 1) 1 28 from ⟨by decide +kernel, rfl⟩) ?_
      refine J_iald (show Dc Y_X12_again 28 (.iaload) 1 29 from ⟨by decide +kernel, rfl⟩) (fun v6 => ?_)
      refine J_aload_n rfl rfl (show Dc Y_X12_again 29 (.aload_n 0) 1 30 from ⟨by decide +kernel, rfl⟩) ?_
      refine J_getI (show Dc Y_X12_again 30 (.getfield 186) 3 33 from ⟨by decide +kernel, rfl⟩) w_f_RX12_186 rfl (fun v7 => ?_)
      refine J_icmp_eq (tg := 38) (show Dc Y_X12_again 33 (.if_icmp .eq 5) 3 36 from ⟨by decide +kernel, rfl⟩) (by decide) (fun h => ?_) (fun h => ?_)
      · refine J_iconst (0 : Int32) rfl (show Dc Y_X12_again 38 (.iconst 0) 1 39 from ⟨by decide +kernel, rfl⟩) ?_
        refine J_istore_n [some (.ref x0), some (.int x1), some (.int (0 : Int32))] (show Dc Y_X12_again 39 (.istore_n 2) 1 40 from ⟨by decide +kernel, rfl⟩) rfl (by decide) rfl rfl ?_
        exact J_loop (X := X) (K := K) (uc := fun _ => 0) (us := fun _ => 0) (lf := fun s => [some (.ref x0), some (.int x1), some (.int s.1)]) (gf := fun s => s.2) (fun s => j_X12_again_40 (K := zKl Y_X12_again X 40 (fun _ => 0) (fun _ => 0) (fun s => [some (.ref x0), some (.int x1), some (.int s.1)]) (fun s => s.2) K) N x0 x1 s.1 s.2 h0 (fun s h => h)) N ((0 : Int32), g1)
      · refine J_mask [false, false, false] ?_
        exact j_X12_again_36 N g1 h0

theorem c_X12_again {l : Launch} {D : ZD} {B0 : Nat} (N : Nat) (x0 : Nat) (x1 : Int32) (g : ZS) : ∀ r, f_X12_again N x0 x1 g = some r → zCt l D B0 yX12_again Y_X12_again [.ref x0, .int x1] g (some (.int r.1)) r.2 :=
  zCt_ofF (vo := fun r => some (.int r.1)) (so := fun r => r.2) (by decide +kernel) rfl (fun h => by cases h) rfl (Nat.le_of_ble_eq_true rfl) (fun X => j_X12_again N x0 x1 g (fun _ _ h => h))

theorem j_X11_count_151 {X : ZX} (N : Nat)  (s0 : Int32)  (g : ZS) {K : Int32 → Prop} (h0 : ∀ v, K v → xK X (some (.int v)) g) : J Y_X11_count X 0 0 151 [none, none] [.int s0] g (f_X11_count_151 N s0 g) K := by
  unfold f_X11_count_151
  exact J_reti (show Dc Y_X11_count 151 (.ireturn) 1 152 from ⟨by decide +kernel, rfl⟩) rfl (h0 _) (by decide) (by decide)

theorem j_X11_count {X : ZX} (N : Nat) (x0 : Nat) (x1 : Int32)   (g : ZS) {K : Int32 → Prop} (h0 : ∀ v, K v → xK X (some (.int v)) g) : J Y_X11_count X 0 0 0 [some (.ref x0), some (.int x1)] [] g (f_X11_count N x0 x1 g) K := by
  unfold f_X11_count
  refine J_iload_n rfl rfl (show Dc Y_X11_count 0 (.iload_n 1) 1 1 from ⟨by decide +kernel, rfl⟩) ?_
  refine J_tsw (tgd := 124) [((0 : Int32), 52, _), ((1 : Int32), 60, _), ((2 : Int32), 68, _), ((3 : Int32), 76, _), ((4 : Int32), 84, _), ((5 : Int32), 92, _), ((6 : Int32), 100, _), ((7 : Int32), 108, _), ((8 : Int32), 116, _)] (show Dc Y_X11_count 1 (.tableswitch 123 0 8 #[51, 59, 67, 75, 83, 91, 99, 107, 115]) 51 52 from ⟨by decide +kernel, rfl⟩) (by simp only [List.map_cons, List.map_nil]; decide +kernel) ?_ ?_
  · refine List.forall_mem_cons.mpr ⟨?_, List.forall_mem_cons.mpr ⟨?_, List.forall_mem_cons.mpr ⟨?_, List.forall_mem_cons.mpr ⟨?_, List.forall_mem_cons.mpr ⟨?_, List.forall_mem_cons.mpr ⟨?_, List.forall_mem_cons.mpr ⟨?_, List.forall_mem_cons.mpr ⟨?_, List.forall_mem_cons.mpr ⟨?_, fun _ h => absurd h List.not_mem_nil⟩⟩⟩⟩⟩⟩⟩⟩⟩
    · refine J_aload_n rfl rfl (show Dc Y_X11_count 52 (.aload_n 0) 1 53 from ⟨by decide +kernel, rfl⟩) ?_
      refine J_getR (show Dc Y_X11_count 53 (.getfield 47) 3 56 from ⟨by decide +kernel, rfl⟩) w_f_RX11_47 rfl (fun v1 => ?_)
      refine J_getI (show Dc Y_X11_count 56 (.getfield 146) 3 59 from ⟨by decide +kernel, rfl⟩) w_f_RX11_146 rfl (fun v2 => ?_)
      exact J_reti (show Dc Y_X11_count 59 (.ireturn) 1 60 from ⟨by decide +kernel, rfl⟩) rfl (h0 _) (by decide) (by decide)
    · refine J_aload_n rfl rfl (show Dc Y_X11_count 60 (.aload_n 0) 1 61 from ⟨by decide +kernel, rfl⟩) ?_
      refine J_getR (show Dc Y_X11_count 61 (.getfield 47) 3 64 from ⟨by decide +kernel, rfl⟩) w_f_RX11_47 rfl (fun v3 => ?_)
      refine J_getI (show Dc Y_X11_count 64 (.getfield 219) 3 67 from ⟨by decide +kernel, rfl⟩) w_f_RX11_219 rfl (fun v4 => ?_)
      exact J_reti (show Dc Y_X11_count 67 (.ireturn) 1 68 from ⟨by decide +kernel, rfl⟩) rfl (h0 _) (by decide) (by decide)
    · refine J_aload_n rfl rfl (show Dc Y_X11_count 68 (.aload_n 0) 1 69 from ⟨by decide +kernel, rfl⟩) ?_
      refine J_getR (show Dc Y_X11_count 69 (.getfield 47) 3 72 from ⟨by decide +kernel, rfl⟩) w_f_RX11_47 rfl (fun v5 => ?_)
      refine J_callVi (fun r => r) (fun _ => g) (show Dc Y_X11_count 72 (.invokevirtual 281) 3 75 from ⟨by decide +kernel, rfl⟩) w_m_RX11_281 w_in_X6_covered rfl w_se_X6_covered w_cw_X6_covered (c_X6_covered N v5 g) rfl rfl (by decide) (Nat.le_of_ble_eq_true rfl) (by decide) (by decide) (fun v6 => ?_)
      exact J_reti (show Dc Y_X11_count 75 (.ireturn) 1 76 from ⟨by decide +kernel, rfl⟩) rfl (h0 _) (by decide) (by decide)
    · refine J_aload_n rfl rfl (show Dc Y_X11_count 76 (.aload_n 0) 1 77 from ⟨by decide +kernel, rfl⟩) ?_
      refine J_getR (show Dc Y_X11_count 77 (.getfield 47) 3 80 from ⟨by decide +kernel, rfl⟩) w_f_RX11_47 rfl (fun v7 => ?_)
      refine J_callVi (fun r => r) (fun _ => g) (show Dc Y_X11_count 80 (.invokevirtual 298) 3 83 from ⟨by decide +kernel, rfl⟩) w_m_RX11_298 w_in_X6_spoken rfl w_se_X6_spoken w_cw_X6_spoken (c_X6_spoken N v7 g) rfl rfl (by decide) (Nat.le_of_ble_eq_true rfl) (by decide) (by decide) (fun v8 => ?_)
      exact J_reti (show Dc Y_X11_count 83 (.ireturn) 1 84 from ⟨by decide +kernel, rfl⟩) rfl (h0 _) (by decide) (by decide)
    · refine J_aload_n rfl rfl (show Dc Y_X11_count 84 (.aload_n 0) 1 85 from ⟨by decide +kernel, rfl⟩) ?_
      refine J_getR (show Dc Y_X11_count 85 (.getfield 89) 3 88 from ⟨by decide +kernel, rfl⟩) w_f_RX11_89 rfl (fun v9 => ?_)
      refine J_getI (show Dc Y_X11_count 88 (.getfield 390) 3 91 from ⟨by decide +kernel, rfl⟩) w_f_RX11_390 rfl (fun v10 => ?_)
      exact J_reti (show Dc Y_X11_count 91 (.ireturn) 1 92 from ⟨by decide +kernel, rfl⟩) rfl (h0 _) (by decide) (by decide)
    · refine J_aload_n rfl rfl (show Dc Y_X11_count 92 (.aload_n 0) 1 93 from ⟨by decide +kernel, rfl⟩) ?_
      refine J_getR (show Dc Y_X11_count 93 (.getfield 96) 3 96 from ⟨by decide +kernel, rfl⟩) w_f_RX11_96 rfl (fun v11 => ?_)
      refine J_getI (show Dc Y_X11_count 96 (.getfield 422) 3 99 from ⟨by decide +kernel, rfl⟩) w_f_RX11_422 rfl (fun v12 => ?_)
      exact J_reti (show Dc Y_X11_count 99 (.ireturn) 1 100 from ⟨by decide +kernel, rfl⟩) rfl (h0 _) (by decide) (by decide)
    · refine J_aload_n rfl rfl (show Dc Y_X11_count 100 (.aload_n 0) 1 101 from ⟨by decide +kernel, rfl⟩) ?_
      refine J_getR (show Dc Y_X11_count 101 (.getfield 57) 3 104 from ⟨by decide +kernel, rfl⟩) w_f_RX11_57 rfl (fun v13 => ?_)
      refine J_getI (show Dc Y_X11_count 104 (.getfield 142) 3 107 from ⟨by decide +kernel, rfl⟩) w_f_RX11_142 rfl (fun v14 => ?_)
      exact J_reti (show Dc Y_X11_count 107 (.ireturn) 1 108 from ⟨by decide +kernel, rfl⟩) rfl (h0 _) (by decide) (by decide)
    · refine J_aload_n rfl rfl (show Dc Y_X11_count 108 (.aload_n 0) 1 109 from ⟨by decide +kernel, rfl⟩) ?_
      refine J_getR (show Dc Y_X11_count 109 (.getfield 19) 3 112 from ⟨by decide +kernel, rfl⟩) w_f_RX11_19 rfl (fun v15 => ?_)
      refine J_getI (show Dc Y_X11_count 112 (.getfield 254) 3 115 from ⟨by decide +kernel, rfl⟩) w_f_RX11_254 rfl (fun v16 => ?_)
      exact J_reti (show Dc Y_X11_count 115 (.ireturn) 1 116 from ⟨by decide +kernel, rfl⟩) rfl (h0 _) (by decide) (by decide)
    · refine J_aload_n rfl rfl (show Dc Y_X11_count 116 (.aload_n 0) 1 117 from ⟨by decide +kernel, rfl⟩) ?_
      refine J_getR (show Dc Y_X11_count 117 (.getfield 10) 3 120 from ⟨by decide +kernel, rfl⟩) w_f_RX11_10 rfl (fun v17 => ?_)
      refine J_getI (show Dc Y_X11_count 120 (.getfield 110) 3 123 from ⟨by decide +kernel, rfl⟩) w_f_RX11_110 rfl (fun v18 => ?_)
      exact J_reti (show Dc Y_X11_count 123 (.ireturn) 1 124 from ⟨by decide +kernel, rfl⟩) rfl (h0 _) (by decide) (by decide)
  · refine J_iload_n rfl rfl (show Dc Y_X11_count 124 (.iload_n 1) 1 125 from ⟨by decide +kernel, rfl⟩) ?_
    refine J_bipush (10 : Int32) rfl (show Dc Y_X11_count 125 (.bipush 10) 2 127 from ⟨by decide +kernel, rfl⟩) ?_
    refine J_isub (show Dc Y_X11_count 127 (.isub) 1 128 from ⟨by decide +kernel, rfl⟩) ?_
    refine J_callSi (fun r => r) (fun _ => g) (show Dc Y_X11_count 128 (.invokestatic 114) 3 131 from ⟨by decide +kernel, rfl⟩) w_m_RX11_114 w_st_X11_isHouse w_cw_X11_isHouse (c_X11_isHouse (x1 - (10 : Int32)) g) rfl rfl (by decide) (Nat.le_of_ble_eq_true rfl) (by decide) (by decide) (fun v19 => ?_)
    refine J_if_eq (tg := 149) (show Dc Y_X11_count 131 (.ifCond .eq 18) 3 134 from ⟨by decide +kernel, rfl⟩) (by decide) (fun h => ?_) (fun h => ?_)
    · refine J_bipush (-100 : Int32) rfl (show Dc Y_X11_count 149 (.bipush (-100)) 2 151 from ⟨by decide +kernel, rfl⟩) ?_
      refine J_mask [false, false] ?_
      exact j_X11_count_151 N (-100 : Int32) g h0
    · refine J_aload_n rfl rfl (show Dc Y_X11_count 134 (.aload_n 0) 1 135 from ⟨by decide +kernel, rfl⟩) ?_
      refine J_getR (show Dc Y_X11_count 135 (.getfield 26) 3 138 from ⟨by decide +kernel, rfl⟩) w_f_RX11_26 rfl (fun v20 => ?_)
      refine J_getR (show Dc Y_X11_count 138 (.getfield 457) 3 141 from ⟨by decide +kernel, rfl⟩) w_f_RX11_457 rfl (fun v21 => ?_)
      refine J_iload_n rfl rfl (show Dc Y_X11_count 141 (.iload_n 1) 1 142 from ⟨by decide +kernel, rfl⟩) ?_
      refine J_bipush (10 : Int32) rfl (show Dc Y_X11_count 142 (.bipush 10) 2 144 from ⟨by decide +kernel, rfl⟩) ?_
      refine J_isub (show Dc Y_X11_count 144 (.isub) 1 145 from ⟨by decide +kernel, rfl⟩) ?_
      refine J_iald (show Dc Y_X11_count 145 (.iaload) 1 146 from ⟨by decide +kernel, rfl⟩) (fun v22 => ?_)
      refine J_goto (tg := 151) (show Dc Y_X11_count 146 (.goto 5) 3 149 from ⟨by decide +kernel, rfl⟩) (by decide) ?_
      refine J_mask [false, false] ?_
      exact j_X11_count_151 N v22 g h0

theorem c_X11_count {l : Launch} {D : ZD} {B0 : Nat} (N : Nat) (x0 : Nat) (x1 : Int32) (g : ZS) : ∀ r, f_X11_count N x0 x1 g = some r → zCt l D B0 yX11_count Y_X11_count [.ref x0, .int x1] g (some (.int r)) g :=
  zCt_ofF (vo := fun r => some (.int r)) (so := fun _ => g) (by decide +kernel) rfl (fun h => by cases h) rfl (Nat.le_of_ble_eq_true rfl) (fun X => j_X11_count N x0 x1 g (fun _ h => h))

theorem j_X12_count {X : ZX} (N : Nat) (x0 : Nat) (x1 : Int32)   (g : ZS) {K : (Int32 × ZS) → Prop} (h0 : ∀ v g, K (v, g) → xK X (some (.int v)) g) : J Y_X12_count X 0 0 0 [some (.ref x0), some (.int x1)] [] g (f_X12_count N x0 x1 g) K := by
  unfold f_X12_count
  refine J_aload_n rfl rfl (show Dc Y_X12_count 0 (.aload_n 0) 1 1 from ⟨by decide +kernel, rfl⟩) ?_
  refine J_iconst (0 : Int32) rfl (show Dc Y_X12_count 1 (.iconst 0) 1 2 from ⟨by decide +kernel, rfl⟩) ?_
  refine J_putI (show Dc Y_X12_count 2 (.putfield 109) 3 5 from ⟨by decide +kernel, rfl⟩) w_f_RX12_109 rfl rfl (fun g1 => ?_) (fun h => by cases h)
  refine J_iload_n rfl rfl (show Dc Y_X12_count 5 (.iload_n 1) 1 6 from ⟨by decide +kernel, rfl⟩) ?_
  refine J_bipush (10 : Int32) rfl (show Dc Y_X12_count 6 (.bipush 10) 2 8 from ⟨by decide +kernel, rfl⟩) ?_
  refine J_bipush (13 : Int32) rfl (show Dc Y_X12_count 8 (.bipush 13) 2 10 from ⟨by decide +kernel, rfl⟩) ?_
  refine J_callSi (fun r => r) (fun _ => g1) (show Dc Y_X12_count 10 (.invokestatic 119) 3 13 from ⟨by decide +kernel, rfl⟩) w_m_RX12_119 w_st_X12_in w_cw_X12_in (c_X12_in x1 (10 : Int32) (13 : Int32) g1) rfl rfl (by decide) (Nat.le_of_ble_eq_true rfl) (by decide) (by decide) (fun v2 => ?_)
  refine J_if_eq (tg := 26) (show Dc Y_X12_count 13 (.ifCond .eq 13) 3 16 from ⟨by decide +kernel, rfl⟩) (by decide) (fun h => ?_) (fun h => ?_)
  · refine J_iload_n rfl rfl (show Dc Y_X12_count 26 (.iload_n 1) 1 27 from ⟨by decide +kernel, rfl⟩) ?_
    refine J_tsw (tgd := 125) [((0 : Int32), 76, _), ((1 : Int32), 81, _), ((2 : Int32), 90, _), ((3 : Int32), 95, _), ((4 : Int32), 100, _), ((5 : Int32), 105, _), ((6 : Int32), 110, _), ((7 : Int32), 115, _), ((8 : Int32), 120, _)] (show Dc Y_X12_count 27 (.tableswitch 98 0 8 #[49, 54, 63, 68, 73, 78, 83, 88, 93]) 49 76 from ⟨by decide +kernel, rfl⟩) (by simp only [List.map_cons, List.map_nil]; decide +kernel) ?_ ?_
    · refine List.forall_mem_cons.mpr ⟨?_, List.forall_mem_cons.mpr ⟨?_, List.forall_mem_cons.mpr ⟨?_, List.forall_mem_cons.mpr ⟨?_, List.forall_mem_cons.mpr ⟨?_, List.forall_mem_cons.mpr ⟨?_, List.forall_mem_cons.mpr ⟨?_, List.forall_mem_cons.mpr ⟨?_, List.forall_mem_cons.mpr ⟨?_, fun _ h => absurd h List.not_mem_nil⟩⟩⟩⟩⟩⟩⟩⟩⟩
      · refine J_aload_n rfl rfl (show Dc Y_X12_count 76 (.aload_n 0) 1 77 from ⟨by decide +kernel, rfl⟩) ?_
        refine J_getI (show Dc Y_X12_count 77 (.getfield 116) 3 80 from ⟨by decide +kernel, rfl⟩) w_f_RX12_116 rfl (fun v3 => ?_)
        exact J_reti (show Dc Y_X12_count 80 (.ireturn) 1 81 from ⟨by decide +kernel, rfl⟩) rfl (h0 _ _) (by decide) (by decide)
      · refine J_aload_n rfl rfl (show Dc Y_X12_count 81 (.aload_n 0) 1 82 from ⟨by decide +kernel, rfl⟩) ?_
        refine J_getR (show Dc Y_X12_count 82 (.getfield 9) 3 85 from ⟨by decide +kernel, rfl⟩) w_f_RX12_9 rfl (fun v4 => ?_)
        refine J_sipush (216 : Int32) rfl (show Dc Y_X12_count 85 (.sipush 216) 3 88 from ⟨by decide +kernel, rfl⟩) ?_
        refine J_iald (show Dc Y_X12_count 88 (.iaload) 1 89 from ⟨by decide +kernel, rfl⟩) (fun v5 => ?_)
        exact J_reti (show Dc Y_X12_count 89 (.ireturn) 1 90 from ⟨by decide +kernel, rfl⟩) rfl (h0 _ _) (by decide) (by decide)
      · refine J_aload_n rfl rfl (show Dc Y_X12_count 90 (.aload_n 0) 1 91 from ⟨by decide +kernel, rfl⟩) ?_
        refine J_callVi (fun r => r) (fun _ => g1) (show Dc Y_X12_count 91 (.invokevirtual 281) 3 94 from ⟨by decide +kernel, rfl⟩) w_m_RX12_281 w_in_X12_cloths rfl w_se_X12_cloths w_cw_X12_cloths (c_X12_cloths N x0 g1) rfl rfl (by decide) (Nat.le_of_ble_eq_true rfl) (by decide) (by decide) (fun v6 => ?_)
        exact J_reti (show Dc Y_X12_count 94 (.ireturn) 1 95 from ⟨by decide +kernel, rfl⟩) rfl (h0 _ _) (by decide) (by decide)
      · refine J_aload_n rfl rfl (show Dc Y_X12_count 95 (.aload_n 0) 1 96 from ⟨by decide +kernel, rfl⟩) ?_
        refine J_callVi (fun r => r) (fun _ => g1) (show Dc Y_X12_count 96 (.invokevirtual 301) 3 99 from ⟨by decide +kernel, rfl⟩) w_m_RX12_301 w_in_X12_speakers rfl w_se_X12_speakers w_cw_X12_speakers (c_X12_speakers N x0 g1) rfl rfl (by decide) (Nat.le_of_ble_eq_true rfl) (by decide) (by decide) (fun v7 => ?_)
        exact J_reti (show Dc Y_X12_count 99 (.ireturn) 1 100 from ⟨by decide +kernel, rfl⟩) rfl (h0 _ _) (by decide) (by decide)
      · refine J_aload_n rfl rfl (show Dc Y_X12_count 100 (.aload_n 0) 1 101 from ⟨by decide +kernel, rfl⟩) ?_
        refine J_getI (show Dc Y_X12_count 101 (.getfield 351) 3 104 from ⟨by decide +kernel, rfl⟩) w_f_RX12_351 rfl (fun v8 => ?_)
        exact J_reti (show Dc Y_X12_count 104 (.ireturn) 1 105 from ⟨by decide +kernel, rfl⟩) rfl (h0 _ _) (by decide) (by decide)
      · refine J_aload_n rfl rfl (show Dc Y_X12_count 105 (.aload_n 0) 1 106 from ⟨by decide +kernel, rfl⟩) ?_
        refine J_getI (show Dc Y_X12_count 106 (.getfield 373) 3 109 from ⟨by decide +kernel, rfl⟩) w_f_RX12_373 rfl (fun v9 => ?_)
        exact J_reti (show Dc Y_X12_count 109 (.ireturn) 1 110 from ⟨by decide +kernel, rfl⟩) rfl (h0 _ _) (by decide) (by decide)
      · refine J_aload_n rfl rfl (show Dc Y_X12_count 110 (.aload_n 0) 1 111 from ⟨by decide +kernel, rfl⟩) ?_
        refine J_getI (show Dc Y_X12_count 111 (.getfield 183) 3 114 from ⟨by decide +kernel, rfl⟩) w_f_RX12_183 rfl (fun v10 => ?_)
        exact J_reti (show Dc Y_X12_count 114 (.ireturn) 1 115 from ⟨by decide +kernel, rfl⟩) rfl (h0 _ _) (by decide) (by decide)
      · refine J_aload_n rfl rfl (show Dc Y_X12_count 115 (.aload_n 0) 1 116 from ⟨by decide +kernel, rfl⟩) ?_
        refine J_getI (show Dc Y_X12_count 116 (.getfield 113) 3 119 from ⟨by decide +kernel, rfl⟩) w_f_RX12_113 rfl (fun v11 => ?_)
        exact J_reti (show Dc Y_X12_count 119 (.ireturn) 1 120 from ⟨by decide +kernel, rfl⟩) rfl (h0 _ _) (by decide) (by decide)
      · refine J_aload_n rfl rfl (show Dc Y_X12_count 120 (.aload_n 0) 1 121 from ⟨by decide +kernel, rfl⟩) ?_
        refine J_getI (show Dc Y_X12_count 121 (.getfield 123) 3 124 from ⟨by decide +kernel, rfl⟩) w_f_RX12_123 rfl (fun v12 => ?_)
        exact J_reti (show Dc Y_X12_count 124 (.ireturn) 1 125 from ⟨by decide +kernel, rfl⟩) rfl (h0 _ _) (by decide) (by decide)
    · refine J_bipush (-100 : Int32) rfl (show Dc Y_X12_count 125 (.bipush (-100)) 2 127 from ⟨by decide +kernel, rfl⟩) ?_
      exact J_reti (show Dc Y_X12_count 127 (.ireturn) 1 128 from ⟨by decide +kernel, rfl⟩) rfl (h0 _ _) (by decide) (by decide)
  · refine J_aload_n rfl rfl (show Dc Y_X12_count 16 (.aload_n 0) 1 17 from ⟨by decide +kernel, rfl⟩) ?_
    refine J_getR (show Dc Y_X12_count 17 (.getfield 22) 3 20 from ⟨by decide +kernel, rfl⟩) w_f_RX12_22 rfl (fun v13 => ?_)
    refine J_iload_n rfl rfl (show Dc Y_X12_count 20 (.iload_n 1) 1 21 from ⟨by decide +kernel, rfl⟩) ?_
    refine J_bipush (10 : Int32) rfl (show Dc Y_X12_count 21 (.bipush 10) 2 23 from ⟨by decide +kernel, rfl⟩) ?_
    refine J_isub (show Dc Y_X12_count 23 (.isub) 1 24 from ⟨by decide +kernel, rfl⟩) ?_
    refine J_iald (show Dc Y_X12_count 24 (.iaload) 1 25 from ⟨by decide +kernel, rfl⟩) (fun v14 => ?_)
    exact J_reti (show Dc Y_X12_count 25 (.ireturn) 1 26 from ⟨by decide +kernel, rfl⟩) rfl (h0 _ _) (by decide) (by decide)

theorem c_X12_count {l : Launch} {D : ZD} {B0 : Nat} (N : Nat) (x0 : Nat) (x1 : Int32) (g : ZS) : ∀ r, f_X12_count N x0 x1 g = some r → zCt l D B0 yX12_count Y_X12_count [.ref x0, .int x1] g (some (.int r.1)) r.2 :=
  zCt_ofF (vo := fun r => some (.int r.1)) (so := fun r => r.2) (by decide +kernel) rfl (fun h => by cases h) rfl (Nat.le_of_ble_eq_true rfl) (fun X => j_X12_count N x0 x1 g (fun _ _ h => h))

theorem j_X12_row_33 {X : ZX}  (s0 : Int64)  (g : ZS) {K : (Int64 × ZS) → Prop} (h0 : ∀ v g, K (v, g) → xK X (some (.long v)) g) : J Y_X12_row X 0 0 33 [none, none] [.long s0] g (f_X12_row_33 s0 g) K := by
  unfold f_X12_row_33
  exact J_retl (show Dc Y_X12_row 33 (.lreturn) 1 34 from ⟨by decide +kernel, rfl⟩) rfl (h0 _ _) (by decide) (by decide)

theorem j_X12_row {X : ZX} (x0 : Nat) (x1 : Int32)   (g : ZS) {K : (Int64 × ZS) → Prop} (h0 : ∀ v g, K (v, g) → xK X (some (.long v)) g) : J Y_X12_row X 0 0 0 [some (.ref x0), some (.int x1)] [] g (f_X12_row x0 x1 g) K := by
  unfold f_X12_row
  refine J_aload_n rfl rfl (show Dc Y_X12_row 0 (.aload_n 0) 1 1 from ⟨by decide +kernel, rfl⟩) ?_
  refine J_iconst (0 : Int32) rfl (show Dc Y_X12_row 1 (.iconst 0) 1 2 from ⟨by decide +kernel, rfl⟩) ?_
  refine J_putI (show Dc Y_X12_row 2 (.putfield 109) 3 5 from ⟨by decide +kernel, rfl⟩) w_f_RX12_109 rfl rfl (fun g1 => ?_) (fun h => by cases h)
  refine J_iload_n rfl rfl (show Dc Y_X12_row 5 (.iload_n 1) 1 6 from ⟨by decide +kernel, rfl⟩) ?_
  refine J_iconst (0 : Int32) rfl (show Dc Y_X12_row 6 (.iconst 0) 1 7 from ⟨by decide +kernel, rfl⟩) ?_
  refine J_aload_n rfl rfl (show Dc Y_X12_row 7 (.aload_n 0) 1 8 from ⟨by decide +kernel, rfl⟩) ?_
  refine J_getI (show Dc Y_X12_row 8 (.getfield 113) 3 11 from ⟨by decide +kernel, rfl⟩) w_f_RX12_113 rfl (fun v2 => ?_)
  refine J_iconst (1 : Int32) rfl (show Dc Y_X12_row 11 (.iconst 1) 1 12 from ⟨by decide +kernel, rfl⟩) ?_
  refine J_isub (show Dc Y_X12_row 12 (.isub) 1 13 from ⟨by decide +kernel, rfl⟩) ?_
  refine J_callSi (fun r => r) (fun _ => g1) (show Dc Y_X12_row 13 (.invokestatic 119) 3 16 from ⟨by decide +kernel, rfl⟩) w_m_RX12_119 w_st_X12_in w_cw_X12_in (c_X12_in x1 (0 : Int32) (v2 - (1 : Int32)) g1) rfl rfl (by decide) (Nat.le_of_ble_eq_true rfl) (by decide) (by decide) (fun v3 => ?_)
  refine J_if_eq (tg := 28) (show Dc Y_X12_row 16 (.ifCond .eq 12) 3 19 from ⟨by decide +kernel, rfl⟩) (by decide) (fun h => ?_) (fun h => ?_)
  · refine J_aload_n rfl rfl (show Dc Y_X12_row 28 (.aload_n 0) 1 29 from ⟨by decide +kernel, rfl⟩) ?_
    refine J_callVi (fun r => r.1) (fun r => r.2) (show Dc Y_X12_row 29 (.invokevirtual 237) 3 32 from ⟨by decide +kernel, rfl⟩) w_m_RX12_237 w_in_X12_lost rfl w_se_X12_lost w_cw_X12_lost (c_X12_lost x0 g1) rfl rfl (by decide) (Nat.le_of_ble_eq_true rfl) (by decide) (by decide) (fun r4 => ?_)
    refine J_i2l (show Dc Y_X12_row 32 (.i2l) 1 33 from ⟨by decide +kernel, rfl⟩) ?_
    refine J_mask [false, false] ?_
    exact j_X12_row_33 r4.1.toInt64 r4.2 h0
  · refine J_aload_n rfl rfl (show Dc Y_X12_row 19 (.aload_n 0) 1 20 from ⟨by decide +kernel, rfl⟩) ?_
    refine J_getR (show Dc Y_X12_row 20 (.getfield 29) 3 23 from ⟨by decide +kernel, rfl⟩) w_f_RX12_29 rfl (fun v5 => ?_)
    refine J_iload_n rfl rfl (show Dc Y_X12_row 23 (.iload_n 1) 1 24 from ⟨by decide +kernel, rfl⟩) ?_
    refine J_lald (show Dc Y_X12_row 24 (.laload) 1 25 from ⟨by decide +kernel, rfl⟩) (fun v6 => ?_)
    refine J_goto (tg := 33) (show Dc Y_X12_row 25 (.goto 8) 3 28 from ⟨by decide +kernel, rfl⟩) (by decide) ?_
    refine J_mask [false, false] ?_
    exact j_X12_row_33 v6 g1 h0

theorem c_X12_row {l : Launch} {D : ZD} {B0 : Nat} (x0 : Nat) (x1 : Int32) (g : ZS) : ∀ r, f_X12_row x0 x1 g = some r → zCt l D B0 yX12_row Y_X12_row [.ref x0, .int x1] g (some (.long r.1)) r.2 :=
  zCt_ofF (vo := fun r => some (.long r.1)) (so := fun r => r.2) (by decide +kernel) rfl (fun h => by cases h) rfl (Nat.le_of_ble_eq_true rfl) (fun X => j_X12_row x0 x1 g (fun _ _ h => h))
