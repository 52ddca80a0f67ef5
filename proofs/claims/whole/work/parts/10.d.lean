def f_X12_refusesTeach_15   (g : ZS) : Option Int32 :=
  some (-1 : Int32)

def f_X12_refusesTeach_32  (s0 : Int32) (g : ZS) : Option Int32 :=
  some s0

def f_X12_refusesTeach (x0 : Nat) (x1 : Nat) (x2 : Int32) (x3 : Int32)  (g : ZS) : Option Int32 :=
  zvs g x0 12 <| (f_X12_isParrot x0 x2 g).bind fun v1 =>
  if v1 = 0 then
    f_X12_refusesTeach_15 g
  else
    (f_X12_isWord x3).bind fun v2 =>
    if v2 = 0 then
      f_X12_refusesTeach_15 g
    else
      (f_X12_hasHeard x1 x2 x3 g).bind fun v3 =>
      if v3 = 0 then
        f_X12_refusesTeach_32 (-2 : Int32) g
      else
        f_X12_refusesTeach_32 (0 : Int32) g

def f_X12_goTeach (x0 : Nat) (x1 : Int32) (x2 : Int32) (x3 : Int32)  (g : ZS) : Option ZS :=
  (f_X12_of x1 ((28 : Int32) + x2)).bind fun v1 =>
  (f_X12_of x1 ((28 : Int32) + x2)).bind fun v2 =>
  (zald 20 g x0 v2).bind fun v3 =>
  (f_J9_min_7cf53 (99 : Int32) (v3 + x3)).bind fun v4 =>
  (zast 20 g x0 v1 v4).bind fun g5 =>
  some g5

def f_X12_teach (N : Nat) (x0 : Nat) (x1 : Int32) (x2 : Int32)  (g : ZS) : Option (Int32 × ZS) :=
  (zwrI g x0 12 10 (0 : Int32)).bind fun g1 =>
  (zrdR g1 x0 12 0).bind fun v2 =>
  zvs g1 x0 12 <| (f_X12_refusesTeach x0 v2 x1 x2 g1).bind fun v3 =>
  if 0 ≤ v3 then
    (zrdR g1 x0 12 0).bind fun v4 =>
    zvs g1 x0 12 <| (f_X12_remember N x0 v4 g1).bind fun g5 =>
    (zrdR g5 x0 12 0).bind fun v6 =>
    (f_X12_goTeach v6 x1 x2 (1 : Int32) g5).bind fun g7 =>
    (zrdR g7 x0 12 0).bind fun v8 =>
    (f_X12_of x1 ((28 : Int32) + x2)).bind fun v9 =>
    (zald 20 g7 v8 v9).bind fun v10 =>
    some (v10, g7)
  else
    some (v3, g1)

def f_X10_insert_55 (N : Nat) (x0 : Nat) (x1 : Int32) (x2 : Int32) (x3 : Int32)  (g : ZS) : Option ZS :=
  (zrdR g x0 10 0).bind fun v1 =>
  (zast 20 g v1 x3 x1).bind fun g2 =>
  (zrdR g2 x0 10 1).bind fun v3 =>
  (zast 20 g2 v3 x3 x2).bind fun g4 =>
  (zrdI g4 x0 10 3).bind fun v5 =>
  (zwrI g4 x0 10 3 (v5 + (1 : Int32))).bind fun g6 =>
  some g6

def f_X10_insert_5 (N : Nat) (x0 : Nat) (x1 : Int32) (x2 : Int32) (x3 : Int32)  (g : ZS) : Option ((Int32 × ZS) ⊕ ZS) :=
  if x3 ≤ 0 then
    (
    f_X10_insert_55 N x0 x1 x2 x3 g).map Sum.inr
  else
    (zrdR g x0 10 1).bind fun v1 =>
    (zald 20 g v1 (x3 - (1 : Int32))).bind fun v2 =>
    if x2 ≤ v2 then
      (
      f_X10_insert_55 N x0 x1 x2 x3 g).map Sum.inr
    else
      (zrdR g x0 10 0).bind fun v3 =>
      (zrdR g x0 10 0).bind fun v4 =>
      (zald 20 g v4 (x3 - (1 : Int32))).bind fun v5 =>
      (zast 20 g v3 x3 v5).bind fun g6 =>
      (zrdR g6 x0 10 1).bind fun v7 =>
      (zrdR g6 x0 10 1).bind fun v8 =>
      (zald 20 g6 v8 (x3 - (1 : Int32))).bind fun v9 =>
      (zast 20 g6 v7 x3 v9).bind fun g10 =>
      some (.inl (x3 + (-1 : Int32), g10))

def f_X10_insert (N : Nat) (x0 : Nat) (x1 : Int32) (x2 : Int32)  (g : ZS) : Option ZS :=
  (zrdI g x0 10 3).bind fun v1 =>
  zloop (fun s => f_X10_insert_5 N x0 x1 x2 s.1 s.2) N (v1, g)

def f_X10_follow_42 (N : Nat) (x0 : Nat) (x1 : Nat) (x2 : Nat) (x3 : Nat) (x4 : Int32)  (g : ZS) : Option ((Int32 × ZS) ⊕ ZS) :=
  some (.inl (x4 + (1 : Int32), g))

def f_X10_follow_8 (N : Nat) (x0 : Nat) (x1 : Nat) (x2 : Nat) (x3 : Nat) (x4 : Int32)  (g : ZS) : Option ((Int32 × ZS) ⊕ ZS) :=
  if (8 : Int32) ≤ x4 then
    (
      (zrdI g x0 10 3).bind fun v1 =>
      (zrdI g x1 0 5).bind fun v2 =>
      (f_J9_min_7cf53 v1 v2).bind fun v3 =>
      (zwrI g x0 10 3 v3).bind fun g4 =>
      some g4).map Sum.inr
  else
    (zrdR g x1 0 0).bind fun v5 =>
    (zald 20 g v5 x4).bind fun v6 =>
    if v6 ≤ 0 then
      f_X10_follow_42 N x0 x1 x2 x3 x4 g
    else
      (zald 20 g x3 x4).bind fun v7 =>
      zvs g x2 5 <| (f_X5_fondness N x2 x1 x4 v7 g).bind fun r8 =>
      zvs r8.2 x0 10 <| (f_X10_insert N x0 x4 r8.1 r8.2).bind fun g9 =>
      f_X10_follow_42 N x0 x1 x2 x3 x4 g9

def f_X10_follow (N : Nat) (x0 : Nat) (x1 : Nat) (x2 : Nat) (x3 : Nat)  (g : ZS) : Option ZS :=
  (zwrI g x0 10 3 (0 : Int32)).bind fun g1 =>
  zloop (fun s => f_X10_follow_8 N x0 x1 x2 x3 s.1 s.2) N ((0 : Int32), g1)

def f_X10_at_22  (s0 : Int32) (g : ZS) : Option Int32 :=
  some s0

def f_X10_at_21   (g : ZS) : Option Int32 :=
  f_X10_at_22 (-1 : Int32) g

def f_X10_at (x0 : Nat) (x1 : Int32)  (g : ZS) : Option Int32 :=
  if x1 < 0 then
    f_X10_at_21 g
  else
    (zrdI g x0 10 3).bind fun v1 =>
    if v1 ≤ x1 then
      f_X10_at_21 g
    else
      (zrdR g x0 10 0).bind fun v2 =>
      (zald 20 g v2 x1).bind fun v3 =>
      f_X10_at_22 v3 g

def f_X11_utter_129 (N : Nat) (x1 : Nat) (x2 : Int32) (x3 : Nat) (x4 : Int32) (x5 : Int32)  (g : ZS) : Option ((Int32 × ZS) ⊕ (Int32 × ZS)) :=
  some (.inl (x5 + (1 : Int32), g))

def f_X11_utter_78 (N : Nat) (x1 : Nat) (x2 : Int32) (x3 : Nat) (x4 : Int32) (x5 : Int32)  (g : ZS) : Option ((Int32 × ZS) ⊕ (Int32 × ZS)) :=
  (zrdI g x1 6 1).bind fun v1 =>
  if v1 ≤ x5 then
    (
      some (x4, g)).map Sum.inr
  else
    (zrdR g x1 6 0).bind fun v2 =>
    (zaald 25 g v2 x5).bind fun v3 =>
    if x5 = x2 then
      f_X11_utter_129 N x1 x2 x3 x4 x5 g
    else
      (zrdI g v3 0 6).bind fun v4 =>
      if v4 = 0 then
        (zrdI g v3 0 4).bind fun v5 =>
        (zrdI g x3 0 4).bind fun v6 =>
        if v5 = v6 then
          zvs g v3 0 <| (f_X0_take v3 x4 g).bind fun g7 =>
          f_X11_utter_129 N x1 x2 x3 x4 x5 g7
        else
          f_X11_utter_129 N x1 x2 x3 x4 x5 g
      else
        f_X11_utter_129 N x1 x2 x3 x4 x5 g

def f_X11_utter (N : Nat) (x0 : Nat) (x1 : Nat) (x2 : Int32)  (g : ZS) : Option (Int32 × ZS) :=
  zvs g x1 6 <| (f_X6_isIn x1 x2 g).bind fun v1 =>
  if v1 = 0 then
    some ((-1 : Int32), g)
  else
    (zrdR g x1 6 0).bind fun v2 =>
    (zaald 25 g v2 x2).bind fun v3 =>
    (zrdI g v3 0 6).bind fun v4 =>
    if v4 = 0 then
      (zrdR g x0 11 12).bind fun v5 =>
      (zrdR g x0 11 4).bind fun v6 =>
      (zrdR g x0 11 3).bind fun v7 =>
      zvs g v5 10 <| (f_X10_follow N v5 v3 v6 v7 g).bind fun g8 =>
      (zrdR g8 x0 11 12).bind fun v9 =>
      (zrdI g8 v3 0 8).bind fun v10 =>
      zvs g8 v9 10 <| (f_X10_at v9 v10 g8).bind fun v11 =>
      if v11 = (-1 : Int32) then
        some ((-3 : Int32), g8)
      else
        (zrdI g8 v3 0 8).bind fun v12 =>
        (zwrI g8 v3 0 8 (v12 + (1 : Int32))).bind fun g13 =>
        zloop (fun s => f_X11_utter_78 N x1 x2 v3 v11 s.1 s.2) N ((0 : Int32), g13)
    else
      some ((-2 : Int32), g)

def f_X6_spoken_32 (N : Nat) (x0 : Nat) (x2 : Int32) (s0 : Int32) (s1 : Int32) (g : ZS) : Option ((Int32 × Int32) ⊕ Int32) :=
  some (.inl (s0 ||| s1, x2 + (1 : Int32)))

def f_X6_spoken_4 (N : Nat) (x0 : Nat) (x1 : Int32) (x2 : Int32)  (g : ZS) : Option ((Int32 × Int32) ⊕ Int32) :=
  (zrdI g x0 6 1).bind fun v1 =>
  if v1 ≤ x2 then
    (
      some x1).map Sum.inr
  else
    (zrdR g x0 6 0).bind fun v2 =>
    (zaald 25 g v2 x2).bind fun v3 =>
    (zrdI g v3 0 8).bind fun v4 =>
    if v4 ≤ 0 then
      f_X6_spoken_32 N x0 x2 x1 (0 : Int32) g
    else
      f_X6_spoken_32 N x0 x2 x1 ((1 : Int32) <<< (x2 &&& 31)) g

def f_X6_spoken (N : Nat) (x0 : Nat)  (g : ZS) : Option Int32 :=
  zloop (fun s => f_X6_spoken_4 N x0 s.1 s.2 g) N ((0 : Int32), (0 : Int32))

def f_X11_silence_13 (N : Nat) (x0 : Nat) (x1 : Int32) (x2 : Int32)  (g : ZS) : Option ((Int32 × ZS) ⊕ (Int32 × ZS)) :=
  (zrdR g x0 11 6).bind fun v1 =>
  (zrdI g v1 6 1).bind fun v2 =>
  if v2 ≤ x2 then
    (
      some (x1, g)).map Sum.inr
  else
    (zrdR g x0 11 6).bind fun v3 =>
    (zrdR g v3 6 0).bind fun v4 =>
    (zaald 25 g v4 x2).bind fun v5 =>
    (zwrI g v5 0 8 (0 : Int32)).bind fun g6 =>
    some (.inl (x2 + (1 : Int32), g6))

def f_X11_silence (N : Nat) (x0 : Nat)  (g : ZS) : Option (Int32 × ZS) :=
  (zrdR g x0 11 6).bind fun v1 =>
  zvs g v1 6 <| (f_X6_spoken N v1 g).bind fun v2 =>
  (f_J6_bitCount_0f7a4 v2).bind fun v3 =>
  zloop (fun s => f_X11_silence_13 N x0 v3 s.1 s.2) N ((0 : Int32), g)

def f_X12_speakers_33 (N : Nat) (x0 : Nat) (x2 : Int32) (s0 : Int32) (s1 : Int32) (g : ZS) : Option ((Int32 × Int32) ⊕ Int32) :=
  some (.inl (s0 ||| s1, x2 + (1 : Int32)))

def f_X12_speakers_4 (N : Nat) (x0 : Nat) (x1 : Int32) (x2 : Int32)  (g : ZS) : Option ((Int32 × Int32) ⊕ Int32) :=
  (zrdI g x0 12 1).bind fun v1 =>
  if v1 ≤ x2 then
    (
      some x1).map Sum.inr
  else
    (zrdR g x0 12 0).bind fun v2 =>
    (f_X12_of x2 (3 : Int32)).bind fun v3 =>
    (zald 20 g v2 v3).bind fun v4 =>
    if v4 ≤ 0 then
      f_X12_speakers_33 N x0 x2 x1 (0 : Int32) g
    else
      f_X12_speakers_33 N x0 x2 x1 ((1 : Int32) <<< (x2 &&& 31)) g

def f_X12_speakers (N : Nat) (x0 : Nat)  (g : ZS) : Option Int32 :=
  zloop (fun s => f_X12_speakers_4 N x0 s.1 s.2 g) N ((0 : Int32), (0 : Int32))

def f_X12_goHush_2 (N : Nat) (x0 : Nat) (x1 : Int32)  (g : ZS) : Option ((Int32 × ZS) ⊕ ZS) :=
  (zrdI g x0 12 1).bind fun v1 =>
  if v1 ≤ x1 then
    (
      some g).map Sum.inr
  else
    (zrdR g x0 12 0).bind fun v2 =>
    (f_X12_of x1 (3 : Int32)).bind fun v3 =>
    (zast 20 g v2 v3 (0 : Int32)).bind fun g4 =>
    some (.inl (x1 + (1 : Int32), g4))

def f_X12_goHush (N : Nat) (x0 : Nat)  (g : ZS) : Option ZS :=
  zloop (fun s => f_X12_goHush_2 N x0 s.1 s.2) N ((0 : Int32), g)

def f_X12_hush_25 (N : Nat) (x0 : Nat) (x1 : Int32)  (g : ZS) : Option (Int32 × ZS) :=
  zvs g x0 12 <| (f_X12_goHush N x0 g).bind fun g1 =>
  some (x1, g1)

def f_X12_hush (N : Nat) (x0 : Nat)  (g : ZS) : Option (Int32 × ZS) :=
  (zwrI g x0 12 10 (0 : Int32)).bind fun g1 =>
  zvs g1 x0 12 <| (f_X12_speakers N x0 g1).bind fun v2 =>
  (f_J6_bitCount_0f7a4 v2).bind fun v3 =>
  if v3 ≤ 0 then
    f_X12_hush_25 N x0 v3 g1
  else
    (zrdR g1 x0 12 0).bind fun v4 =>
    zvs g1 x0 12 <| (f_X12_remember N x0 v4 g1).bind fun g5 =>
    f_X12_hush_25 N x0 v3 g5

def f_X11_signsBehind_62   : Option Int32 :=
  some (1 : Int32)

def f_X11_signsBehind_64   : Option Int32 :=
  some (2 : Int32)

def f_X11_signsBehind (x0 : Int32)  : Option Int32 :=
  zcase x0 [
    ((100 : Int32),
      f_X11_signsBehind_62),
    ((107 : Int32),
      f_X11_signsBehind_62),
    ((109 : Int32),
      f_X11_signsBehind_64),
    ((115 : Int32),
      f_X11_signsBehind_62),
    ((116 : Int32),
      f_X11_signsBehind_64),
    ((120 : Int32),
      some (0 : Int32))] (
    some (-1 : Int32))

def f_X11_badInTrial_102 (N : Nat) (x0 : Nat) (x1 : Int32) (x2 : Int32) (x3 : Int32)  (g : ZS) : Option ((Int32 × Int32 × Int32) ⊕ Int32) :=
  some (.inl (x1, x2, x3 + (1 : Int32)))

def f_X11_badInTrial_93 (N : Nat) (x0 : Nat) (x1 : Int32) (x2 : Int32) (x3 : Int32) (s0 : Int32) (g : ZS) : Option ((Int32 × Int32 × Int32) ⊕ Int32) :=
  if s0 = (-1 : Int32) then
    (
      some x3).map Sum.inr
  else
    f_X11_badInTrial_102 N x0 x1 (x2 + (-1 : Int32)) x3 g

def f_X11_badInTrial_67 (N : Nat) (x0 : Nat) (x1 : Int32) (x2 : Int32) (x3 : Int32) (s0 : Int32) (g : ZS) : Option ((Int32 × Int32 × Int32) ⊕ Int32) :=
  if s0 = 0 then
    (zrdR g x0 11 0).bind fun v1 =>
    zvs g v1 8 <| (f_X8_digitAt v1 x3 g).bind fun v2 =>
    f_X11_badInTrial_93 N x0 x1 x2 x3 v2 g
  else
    (zrdR g x0 11 0).bind fun v3 =>
    zvs g v3 8 <| (f_X8_wordAt v3 x3 g).bind fun v4 =>
    f_X11_badInTrial_93 N x0 x1 x2 x3 v4 g

def f_X11_badInTrial_66 (N : Nat) (x0 : Nat) (x1 : Int32) (x2 : Int32) (x3 : Int32)  (g : ZS) : Option ((Int32 × Int32 × Int32) ⊕ Int32) :=
  f_X11_badInTrial_67 N x0 x1 x2 x3 (0 : Int32) g

def f_X11_badInTrial_123 (N : Nat)  (s0 : Int32) (g : ZS) : Option Int32 :=
  some s0

def f_X11_badInTrial_7 (N : Nat) (x0 : Nat) (x1 : Int32) (x2 : Int32) (x3 : Int32)  (g : ZS) : Option ((Int32 × Int32 × Int32) ⊕ Int32) :=
  (zrdR g x0 11 0).bind fun v1 =>
  (zrdI g v1 8 1).bind fun v2 =>
  if v2 ≤ x3 then
    (
      if x2 = 0 then
        f_X11_badInTrial_123 N (-1 : Int32) g
      else
        (zrdR g x0 11 0).bind fun v3 =>
        (zrdI g v3 8 1).bind fun v4 =>
        f_X11_badInTrial_123 N v4 g).map Sum.inr
  else
    if x3 < (60 : Int32) then
      if x2 = 0 then
        (zrdR g x0 11 0).bind fun v5 =>
        zvs g v5 8 <| (f_X8_at v5 x3 g).bind fun v6 =>
        (f_X11_signsBehind v6).bind fun v7 =>
        if v7 = (-1 : Int32) then
          (
            some x3).map Sum.inr
        else
          f_X11_badInTrial_102 N x0 v6 v7 x3 g
      else
        if x1 = (116 : Int32) then
          if x2 = (1 : Int32) then
            f_X11_badInTrial_67 N x0 x1 x2 x3 (1 : Int32) g
          else
            f_X11_badInTrial_66 N x0 x1 x2 x3 g
        else
          f_X11_badInTrial_66 N x0 x1 x2 x3 g
    else
      (
        some x3).map Sum.inr

def f_X11_badInTrial (N : Nat) (x0 : Nat)  (g : ZS) : Option Int32 :=
  zloop (fun s => f_X11_badInTrial_7 N x0 s.1 s.2.1 s.2.2 g) N ((120 : Int32), (0 : Int32), (0 : Int32))

def f_X11_actAt (N : Nat) (x0 : Nat) (x1 : Int32)  (g : ZS) : Option (Int32 × ZS) :=
  (zrdR g x0 11 0).bind fun v1 =>
  zvs g v1 8 <| (f_X8_digitAt v1 (x1 + (1 : Int32)) g).bind fun v2 =>
  (zrdR g x0 11 0).bind fun v3 =>
  zvs g v3 8 <| (f_X8_at v3 x1 g).bind fun v4 =>
  zcase v4 [
    ((100 : Int32),
      (zrdR g x0 11 6).bind fun v5 =>
      zvs g x0 11 <| (f_X11_passDays N x0 v5 v2 g).bind fun r6 =>
      some (r6.1, r6.2)),
    ((107 : Int32),
      zvs g x0 11 <| (f_X11_cover N x0 v2 g).bind fun r7 =>
      some (r7.1, r7.2)),
    ((109 : Int32),
      (zrdR g x0 11 6).bind fun v8 =>
      (zrdR g x0 11 0).bind fun v9 =>
      zvs g v9 8 <| (f_X8_digitAt v9 (x1 + (2 : Int32)) g).bind fun v10 =>
      (f_X11_bring v8 v2 v10 g).bind fun r11 =>
      some (r11.1, r11.2)),
    ((115 : Int32),
      (zrdR g x0 11 6).bind fun v12 =>
      zvs g x0 11 <| (f_X11_utter N x0 v12 v2 g).bind fun r13 =>
      some (r13.1, r13.2)),
    ((116 : Int32),
      (zrdR g x0 11 6).bind fun v14 =>
      (zrdR g x0 11 0).bind fun v15 =>
      zvs g v15 8 <| (f_X8_wordAt v15 (x1 + (2 : Int32)) g).bind fun v16 =>
      (f_X11_feed v14 v2 v16 g).bind fun r17 =>
      some (r17.1, r17.2)),
    ((120 : Int32),
      zvs g x0 11 <| (f_X11_silence N x0 g).bind fun r18 =>
      some (r18.1, r18.2))] (
    some ((-1 : Int32), g))

def f_X9_pair (x0 : Nat) (x1 : Int64) (x3 : Int64)  (g : ZS) : Option ZS :=
  (zwrI g x0 9 1 (0 : Int32)).bind fun g1 =>
  zvs g1 x0 9 <| (f_X9_add x0 x1 g1).bind fun g2 =>
  zvs g2 x0 9 <| (f_X9_add x0 x3 g2).bind fun g3 =>
  some g3

def f_X12_readAct_133   (g : ZS) : Option ZS :=
  some g

def f_X12_readAct_111 (x0 : Nat) (x1 : Int32) (x2 : Int32)  (g : ZS) : Option ZS :=
  if x2 = (116 : Int32) then
    (zrdR g x0 12 29).bind fun v1 =>
    zvs g x0 12 <| (f_X12_oneOf x0 (97 : Int32) (8 : Int32) g).bind fun r2 =>
    (zast 20 r2.2 v1 (x1 + (2 : Int32)) r2.1).bind fun g3 =>
    f_X12_readAct_133 g3
  else
    f_X12_readAct_133 g

def f_X12_readAct_89 (x0 : Nat) (x1 : Int32) (x2 : Int32)  (g : ZS) : Option ZS :=
  if x2 = (109 : Int32) then
    (zrdR g x0 12 29).bind fun v1 =>
    zvs g x0 12 <| (f_X12_oneOf x0 (48 : Int32) (10 : Int32) g).bind fun r2 =>
    (zast 20 r2.2 v1 (x1 + (2 : Int32)) r2.1).bind fun g3 =>
    f_X12_readAct_111 x0 x1 x2 g3
  else
    f_X12_readAct_111 x0 x1 x2 g

def f_X12_readAct_50 (x0 : Nat) (x1 : Int32) (x2 : Int32)  (g : ZS) : Option ZS :=
  (zrdI g x0 12 14).bind fun v1 =>
  (zwrI g x0 12 14 (v1 + (1 : Int32))).bind fun g2 =>
  (zrdR g2 x0 12 29).bind fun v3 =>
  (zast 20 g2 v3 x1 x2).bind fun g4 =>
  if x2 = (120 : Int32) then
    f_X12_readAct_89 x0 x1 x2 g4
  else
    (zrdR g4 x0 12 29).bind fun v5 =>
    zvs g4 x0 12 <| (f_X12_oneOf x0 (48 : Int32) (10 : Int32) g4).bind fun r6 =>
    (zast 20 r6.2 v5 (x1 + (1 : Int32)) r6.1).bind fun g7 =>
    f_X12_readAct_89 x0 x1 x2 g7

def f_X12_readAct (x0 : Nat) (x1 : Int32)  (g : ZS) : Option ZS :=
  zvs g x0 12 <| (f_X12_here x0 g).bind fun v1 =>
  if v1 = (100 : Int32) then
    f_X12_readAct_50 x0 x1 v1 g
  else
    if v1 = (109 : Int32) then
      f_X12_readAct_50 x0 x1 v1 g
    else
      if v1 = (107 : Int32) then
        f_X12_readAct_50 x0 x1 v1 g
      else
        if v1 = (116 : Int32) then
          f_X12_readAct_50 x0 x1 v1 g
        else
          if v1 = (115 : Int32) then
            f_X12_readAct_50 x0 x1 v1 g
          else
            if v1 = (120 : Int32) then
              f_X12_readAct_50 x0 x1 v1 g
            else
              (zrdI g x0 12 14).bind fun v2 =>
              zvs g x0 12 <| (f_X12_fault x0 v2 g).bind fun g3 =>
              some g3

def f_X12_undo_26 (N : Nat) (x0 : Nat) (x1 : Int32)  (g : ZS) : Option ((Int32 × ZS) ⊕ (Int32 × ZS)) :=
  if (217 : Int32) ≤ x1 then
    (
      (zrdI g x0 12 26).bind fun v1 =>
      some (v1, g)).map Sum.inr
  else
    (zrdR g x0 12 0).bind fun v2 =>
    (zrdR g x0 12 25).bind fun v3 =>
    (zrdI g x0 12 26).bind fun v4 =>
    (zald 20 g v3 (((217 : Int32) * v4) + x1)).bind fun v5 =>
    (zast 20 g v2 x1 v5).bind fun g6 =>
    some (.inl (x1 + (1 : Int32), g6))

def f_X12_undo (N : Nat) (x0 : Nat)  (g : ZS) : Option (Int32 × ZS) :=
  (zwrI g x0 12 10 (0 : Int32)).bind fun g1 =>
  (zrdI g1 x0 12 26).bind fun v2 =>
  if v2 = 0 then
    some ((-1 : Int32), g1)
  else
    (zrdI g1 x0 12 26).bind fun v3 =>
    (zwrI g1 x0 12 26 (v3 - (1 : Int32))).bind fun g4 =>
    zloop (fun s => f_X12_undo_26 N x0 s.1 s.2) N ((0 : Int32), g4)

def f_X11_tellWords_10 (N : Nat) (x0 : Nat) (x1 : Int32)  (g : ZS) : Option ((Int32 × ZS) ⊕ (Int32 × ZS)) :=
  (zrdR g x0 11 12).bind fun v1 =>
  (zrdI g v1 10 3).bind fun v2 =>
  if v2 ≤ x1 then
    (
      (zrdR g x0 11 12).bind fun v3 =>
      (zrdI g v3 10 3).bind fun v4 =>
      some (v4, g)).map Sum.inr
  else
    (zrdR g x0 11 1).bind fun v5 =>
    (zrdR g x0 11 12).bind fun v6 =>
    (zrdR g v6 10 0).bind fun v7 =>
    (zald 20 g v7 x1).bind fun v8 =>
    zvs g v5 9 <| (f_X9_add v5 v8.toInt64 g).bind fun g9 =>
    some (.inl (x1 + (1 : Int32), g9))

def f_X11_tellWords (N : Nat) (x0 : Nat)  (g : ZS) : Option (Int32 × ZS) :=
  (zrdR g x0 11 1).bind fun v1 =>
  (zwrI g v1 9 1 (0 : Int32)).bind fun g2 =>
  zloop (fun s => f_X11_tellWords_10 N x0 s.1 s.2) N ((0 : Int32), g2)

def f_X11_says (N : Nat) (x0 : Nat) (x1 : Int32)  (g : ZS) : Option (Int32 × ZS) :=
  zvs g x0 11 <| (f_X11_isParrot x0 x1 g).bind fun v1 =>
  if v1 = 0 then
    some ((-1 : Int32), g)
  else
    (zrdR g x0 11 12).bind fun v2 =>
    (zrdR g x0 11 6).bind fun v3 =>
    (zrdR g v3 6 0).bind fun v4 =>
    (zaald 25 g v4 x1).bind fun v5 =>
    (zrdR g x0 11 4).bind fun v6 =>
    (zrdR g x0 11 3).bind fun v7 =>
    zvs g v2 10 <| (f_X10_follow N v2 v5 v6 v7 g).bind fun g8 =>
    zvs g8 x0 11 <| (f_X11_tellWords N x0 g8).bind fun r9 =>
    some (r9.1, r9.2)

def f_X12_tellList_7 (N : Nat) (x0 : Nat) (x1 : Nat) (x2 : Int32) (x3 : Int32)  (g : ZS) : Option ((Int32 × ZS) ⊕ ZS) :=
  if x2 ≤ x3 then
    (
      some g).map Sum.inr
  else
    (zald 20 g x1 x3).bind fun v1 =>
    zvs g x0 12 <| (f_X12_tell x0 v1.toInt64 g).bind fun g2 =>
    some (.inl (x3 + (1 : Int32), g2))

def f_X12_tellList (N : Nat) (x0 : Nat) (x1 : Nat) (x2 : Int32)  (g : ZS) : Option ZS :=
  (zwrI g x0 12 9 (0 : Int32)).bind fun g1 =>
  zloop (fun s => f_X12_tellList_7 N x0 x1 x2 s.1 s.2) N ((0 : Int32), g1)

def f_X10_placeOf_2 (N : Nat) (x0 : Nat) (x1 : Int32) (x2 : Int32)  (g : ZS) : Option ((Int32) ⊕ Int32) :=
  (zrdI g x0 10 3).bind fun v1 =>
  if v1 ≤ x2 then
    (
      some (-1 : Int32)).map Sum.inr
  else
    (zrdR g x0 10 0).bind fun v2 =>
    (zald 20 g v2 x2).bind fun v3 =>
    if v3 = x1 then
      (
        some x2).map Sum.inr
    else
      some (.inl (x2 + (1 : Int32)))

def f_X10_placeOf (N : Nat) (x0 : Nat) (x1 : Int32)  (g : ZS) : Option Int32 :=
  zloop (fun s => f_X10_placeOf_2 N x0 x1 s g) N (0 : Int32)

def f_X11_place_15 (N : Nat)   (g : ZS) : Option (Int32 × ZS) :=
  some ((-1 : Int32), g)

def f_X11_place_61 (N : Nat)  (s0 : Int32) (g : ZS) : Option (Int32 × ZS) :=
  some (s0, g)

def f_X11_place (N : Nat) (x0 : Nat) (x1 : Int32) (x2 : Int32)  (g : ZS) : Option (Int32 × ZS) :=
  zvs g x0 11 <| (f_X11_isParrot x0 x1 g).bind fun v1 =>
  if v1 = 0 then
    f_X11_place_15 N g
  else
    (f_X11_isWord x2).bind fun v2 =>
    if v2 = 0 then
      f_X11_place_15 N g
    else
      (zrdR g x0 11 12).bind fun v3 =>
      (zrdR g x0 11 6).bind fun v4 =>
      (zrdR g v4 6 0).bind fun v5 =>
      (zaald 25 g v5 x1).bind fun v6 =>
      (zrdR g x0 11 4).bind fun v7 =>
      (zrdR g x0 11 3).bind fun v8 =>
      zvs g v3 10 <| (f_X10_follow N v3 v6 v7 v8 g).bind fun g9 =>
      (zrdR g9 x0 11 12).bind fun v10 =>
      zvs g9 v10 10 <| (f_X10_placeOf N v10 x2 g9).bind fun v11 =>
      if v11 = (-1 : Int32) then
        f_X11_place_61 N (-2 : Int32) g9
      else
        f_X11_place_61 N v11 g9

def f_X11_soonest_94 (N : Nat) (x0 : Nat) (x1 : Int32) (x2 : Int32) (x3 : Int32) (x4 : Int32) (x5 : Int32)  (g : ZS) : Option ((Int32 × Int32 × Int32 × Int32 × ZS) ⊕ (Int32 × ZS)) :=
  some (.inl (x2, x3, x4, x5 + (1 : Int32), g))

def f_X11_soonest_76 (N : Nat) (x0 : Nat) (x1 : Int32) (x2 : Int32) (x3 : Int32) (x4 : Int32) (x5 : Int32) (x6 : Int32)  (g : ZS) : Option ((Int32 × Int32 × Int32 × Int32 × ZS) ⊕ (Int32 × ZS)) :=
  if x6 = (-1 : Int32) then
    f_X11_soonest_94 N x0 x1 x2 x3 x4 x5 g
  else
    if x3 ≤ x6 then
      f_X11_soonest_94 N x0 x1 x2 x3 x4 x5 g
    else
      f_X11_soonest_94 N x0 x1 x5 x6 x4 x5 g

def f_X11_soonest_20 (N : Nat) (x0 : Nat) (x1 : Int32) (x2 : Int32) (x3 : Int32) (x4 : Int32) (x5 : Int32)  (g : ZS) : Option ((Int32 × Int32 × Int32 × Int32 × ZS) ⊕ (Int32 × ZS)) :=
  (zrdR g x0 11 6).bind fun v1 =>
  (zrdI g v1 6 1).bind fun v2 =>
  if v2 ≤ x5 then
    (
      if x2 = (-1 : Int32) then
        some ((-2 : Int32), g)
      else
        (zrdR g x0 11 1).bind fun v3 =>
        zvs g v3 9 <| (f_X9_pair v3 x3.toInt64 x4.toInt64 g).bind fun g4 =>
        some (x2, g4)).map Sum.inr
  else
    (zrdR g x0 11 12).bind fun v5 =>
    (zrdR g x0 11 6).bind fun v6 =>
    (zrdR g v6 6 0).bind fun v7 =>
    (zaald 25 g v7 x5).bind fun v8 =>
    (zrdR g x0 11 4).bind fun v9 =>
    (zrdR g x0 11 3).bind fun v10 =>
    zvs g v5 10 <| (f_X10_follow N v5 v8 v9 v10 g).bind fun g11 =>
    (zrdR g11 x0 11 12).bind fun v12 =>
    zvs g11 v12 10 <| (f_X10_placeOf N v12 x1 g11).bind fun v13 =>
    if v13 = (-1 : Int32) then
      f_X11_soonest_76 N x0 x1 x2 x3 x4 x5 v13 g11
    else
      f_X11_soonest_76 N x0 x1 x2 x3 (x4 + (1 : Int32)) x5 v13 g11

def f_X11_soonest (N : Nat) (x0 : Nat) (x1 : Int32)  (g : ZS) : Option (Int32 × ZS) :=
  (f_X11_isWord x1).bind fun v1 =>
  if v1 = 0 then
    some ((-1 : Int32), g)
  else
    zloop (fun s => f_X11_soonest_20 N x0 x1 s.1 s.2.1 s.2.2.1 s.2.2.2.1 s.2.2.2.2) N ((-1 : Int32), (8 : Int32), (0 : Int32), (0 : Int32), g)

def f_X10_bits_34 (N : Nat) (x2 : Int32)  (g : ZS) : Option Int32 :=
  some x2

def f_X10_bits_4 (N : Nat) (x0 : Nat) (x1 : Int32) (x2 : Int32) (x3 : Int32)  (g : ZS) : Option ((Int32 × Int32) ⊕ Int32) :=
  if x1 ≤ x3 then
    (
    f_X10_bits_34 N x2 g).map Sum.inr
  else
    (zrdI g x0 10 3).bind fun v1 =>
    if v1 ≤ x3 then
      (
      f_X10_bits_34 N x2 g).map Sum.inr
    else
      (zrdR g x0 10 0).bind fun v2 =>
      (zald 20 g v2 x3).bind fun v3 =>
      some (.inl (x2 ||| ((1 : Int32) <<< (v3 &&& 31)), x3 + (1 : Int32)))

def f_X10_bits (N : Nat) (x0 : Nat) (x1 : Int32)  (g : ZS) : Option Int32 :=
  zloop (fun s => f_X10_bits_4 N x0 x1 s.1 s.2 g) N ((0 : Int32), (0 : Int32))

def f_X11_gatherSets_2 (N : Nat) (x0 : Nat) (x1 : Int32) (x2 : Int32)  (g : ZS) : Option ((Int32 × ZS) ⊕ ZS) :=
  (zrdR g x0 11 6).bind fun v1 =>
  (zrdI g v1 6 1).bind fun v2 =>
  if v2 ≤ x2 then
    (
      some g).map Sum.inr
  else
    (zrdR g x0 11 12).bind fun v3 =>
    (zrdR g x0 11 6).bind fun v4 =>
    (zrdR g v4 6 0).bind fun v5 =>
    (zaald 25 g v5 x2).bind fun v6 =>
    (zrdR g x0 11 4).bind fun v7 =>
    (zrdR g x0 11 3).bind fun v8 =>
    zvs g v3 10 <| (f_X10_follow N v3 v6 v7 v8 g).bind fun g9 =>
    (zrdR g9 x0 11 16).bind fun v10 =>
    (zrdR g9 x0 11 12).bind fun v11 =>
    zvs g9 v11 10 <| (f_X10_bits N v11 x1 g9).bind fun v12 =>
    (zast 20 g9 v10 x2 v12).bind fun g13 =>
    some (.inl (x2 + (1 : Int32), g13))

def f_X11_gatherSets (N : Nat) (x0 : Nat) (x1 : Int32)  (g : ZS) : Option ZS :=
  zloop (fun s => f_X11_gatherSets_2 N x0 x1 s.1 s.2) N ((0 : Int32), g)

def f_X6_known_4 (N : Nat) (x0 : Nat) (x1 : Int32) (x2 : Int32)  (g : ZS) : Option ((Int32 × Int32) ⊕ Int32) :=
  (zrdI g x0 6 1).bind fun v1 =>
  if v1 ≤ x2 then
    (
      some x1).map Sum.inr
  else
    (zrdR g x0 6 0).bind fun v2 =>
    (zaald 25 g v2 x2).bind fun v3 =>
    zvs g v3 0 <| (f_X0_known N v3 g).bind fun v4 =>
    some (.inl (x1 ||| v4, x2 + (1 : Int32)))

def f_X6_known (N : Nat) (x0 : Nat)  (g : ZS) : Option Int32 :=
  zloop (fun s => f_X6_known_4 N x0 s.1 s.2 g) N ((0 : Int32), (0 : Int32))

def f_X9_only (x0 : Nat) (x1 : Int64)  (g : ZS) : Option ZS :=
  (zwrI g x0 9 1 (0 : Int32)).bind fun g1 =>
  zvs g1 x0 9 <| (f_X9_add x0 x1 g1).bind fun g2 =>
  some g2

def f_X11_unsaid_10 (N : Nat) (x0 : Nat) (x1 : Int32) (x2 : Int32)  (g : ZS) : Option ((Int32 × Int32) ⊕ (Int32 × ZS)) :=
  (zrdR g x0 11 6).bind fun v1 =>
  (zrdI g v1 6 1).bind fun v2 =>
  if v2 ≤ x2 then
    (
      (zrdR g x0 11 1).bind fun v3 =>
      (zrdR g x0 11 6).bind fun v4 =>
      zvs g v4 6 <| (f_X6_known N v4 g).bind fun v5 =>
      zvs g v3 9 <| (f_X9_only v3 (((255 : Int32) &&& (v5 ^^^ (-1 : Int32))).toInt64) g).bind fun g6 =>
      some ((255 : Int32) &&& (x1 ^^^ (-1 : Int32)), g6)).map Sum.inr
  else
    (zrdR g x0 11 16).bind fun v7 =>
    (zald 20 g v7 x2).bind fun v8 =>
    some (.inl (x1 ||| v8, x2 + (1 : Int32)))

def f_X11_unsaid (N : Nat) (x0 : Nat)  (g : ZS) : Option (Int32 × ZS) :=
  zvs g x0 11 <| (f_X11_gatherSets N x0 (8 : Int32) g).bind fun g1 =>
  zloop (fun s => f_X11_unsaid_10 N x0 s.1 s.2 g1) N ((0 : Int32), (0 : Int32))

theorem j_X12_refusesTeach_15 {X : ZX}    (g : ZS) {K : Int32 → Prop} (h0 : ∀ v, K v → xK X (some (.int v)) g) : J Y_X12_refusesTeach X 0 0 15 [none, none, none, none] [] g (f_X12_refusesTeach_15 g) K := by
  unfold f_X12_refusesTeach_15
  refine J_iconst (-1 : Int32) rfl (show Dc Y_X12_refusesTeach 15 (.iconst (-1)) 1 16 from ⟨by decide +kernel, rfl⟩) ?_
  exact J_reti (show Dc Y_X12_refusesTeach 16 (.ireturn) 1 17 from ⟨by decide +kernel, rfl⟩) rfl (h0 _) (by decide) (by decide)

theorem j_X12_refusesTeach_32 {X : ZX}  (s0 : Int32)  (g : ZS) {K : Int32 → Prop} (h0 : ∀ v, K v → xK X (some (.int v)) g) : J Y_X12_refusesTeach X 0 0 32 [none, none, none, none] [.int s0] g (f_X12_refusesTeach_32 s0 g) K := by
  unfold f_X12_refusesTeach_32
  exact J_reti (show Dc Y_X12_refusesTeach 32 (.ireturn) 1 33 from ⟨by decide +kernel, rfl⟩) rfl (h0 _) (by decide) (by decide)

theorem j_X12_refusesTeach {X : ZX} (x0 : Nat) (x1 : Nat) (x2 : Int32) (x3 : Int32)   (g : ZS) {K : Int32 → Prop} (h0 : ∀ v, K v → xK X (some (.int v)) g) : J Y_X12_refusesTeach X 0 0 0 [some (.ref x0), some (.ref x1), some (.int x2), some (.int x3)] [] g (f_X12_refusesTeach x0 x1 x2 x3 g) K := by
  unfold f_X12_refusesTeach
  refine J_aload_n rfl rfl (show Dc Y_X12_refusesTeach 0 (.aload_n 0) 1 1 from ⟨by decide +kernel, rfl⟩) ?_
  refine J_iload_n rfl rfl (show Dc Y_X12_refusesTeach 1 (.iload_n 2) 1 2 from ⟨by decide +kernel, rfl⟩) ?_
  refine J_callVi (fun r => r) (fun _ => g) (show Dc Y_X12_refusesTeach 2 (.invokevirtual 234) 3 5 from ⟨by decide +kernel, rfl⟩) w_m_RX12_234 w_in_X12_isParrot rfl w_se_X12_isParrot w_cw_X12_isParrot (c_X12_isParrot x0 x2 g) rfl rfl (by decide) (Nat.le_of_ble_eq_true rfl) (by decide) (by decide) (fun v1 => ?_)
  refine J_if_eq (tg := 15) (show Dc Y_X12_refusesTeach 5 (.ifCond .eq 10) 3 8 from ⟨by decide +kernel, rfl⟩) (by decide) (fun h => ?_) (fun h => ?_)
  · refine J_mask [false, false, false, false] ?_
    exact j_X12_refusesTeach_15 g h0
  · refine J_iload_n rfl rfl (show Dc Y_X12_refusesTeach 8 (.iload_n 3) 1 9 from ⟨by decide +kernel, rfl⟩) ?_
    refine J_callSi (fun r => r) (fun _ => g) (show Dc Y_X12_refusesTeach 9 (.invokestatic 244) 3 12 from ⟨by decide +kernel, rfl⟩) w_m_RX12_244 w_st_X12_isWord w_cw_X12_isWord (c_X12_isWord x3 g) rfl rfl (by decide) (Nat.le_of_ble_eq_true rfl) (by decide) (by decide) (fun v2 => ?_)
    refine J_if_ne (tg := 17) (show Dc Y_X12_refusesTeach 12 (.ifCond .ne 5) 3 15 from ⟨by decide +kernel, rfl⟩) (by decide) (fun h => ?_) (fun h => ?_)
    · refine J_aload_n rfl rfl (show Dc Y_X12_refusesTeach 17 (.aload_n 1) 1 18 from ⟨by decide +kernel, rfl⟩) ?_
      refine J_iload_n rfl rfl (show Dc Y_X12_refusesTeach 18 (.iload_n 2) 1 19 from ⟨by decide +kernel, rfl⟩) ?_
      refine J_iload_n rfl rfl (show Dc Y_X12_refusesTeach 19 (.iload_n 3) 1 20 from ⟨by decide +kernel, rfl⟩) ?_
      refine J_callSi (fun r => r) (fun _ => g) (show Dc Y_X12_refusesTeach 20 (.invokestatic 221) 3 23 from ⟨by decide +kernel, rfl⟩) w_m_RX12_221 w_st_X12_hasHeard w_cw_X12_hasHeard (c_X12_hasHeard x1 x2 x3 g) rfl rfl (by decide) (Nat.le_of_ble_eq_true rfl) (by decide) (by decide) (fun v3 => ?_)
      refine J_if_eq (tg := 30) (show Dc Y_X12_refusesTeach 23 (.ifCond .eq 7) 3 26 from ⟨by decide +kernel, rfl⟩) (by decide) (fun h => ?_) (fun h => ?_)
      · refine J_bipush (-2 : Int32) rfl (show Dc Y_X12_refusesTeach 30 (.bipush (-2)) 2 32 from ⟨by decide +kernel, rfl⟩) ?_
        refine J_mask [false, false, false, false] ?_
        exact j_X12_refusesTeach_32 (-2 : Int32) g h0
      · refine J_iconst (0 : Int32) rfl (show Dc Y_X12_refusesTeach 26 (.iconst 0) 1 27 from ⟨by decide +kernel, rfl⟩) ?_
        refine J_goto (tg := 32) (show Dc Y_X12_refusesTeach 27 (.goto 5) 3 30 from ⟨by decide +kernel, rfl⟩) (by decide) ?_
        refine J_mask [false, false, false, false] ?_
        exact j_X12_refusesTeach_32 (0 : Int32) g h0
    · refine J_mask [false, false, false, false] ?_
      exact j_X12_refusesTeach_15 g h0

theorem c_X12_refusesTeach {l : Launch} {D : ZD} {B0 : Nat} (x0 : Nat) (x1 : Nat) (x2 : Int32) (x3 : Int32) (g : ZS) : ∀ r, f_X12_refusesTeach x0 x1 x2 x3 g = some r → zCt l D B0 yX12_refusesTeach Y_X12_refusesTeach [.ref x0, .ref x1, .int x2, .int x3] g (some (.int r)) g :=
  zCt_ofF (vo := fun r => some (.int r)) (so := fun _ => g) (by decide +kernel) rfl (fun h => by cases h) rfl (Nat.le_of_ble_eq_true rfl) (fun X => j_X12_refusesTeach x0 x1 x2 x3 g (fun _ h => h))

theorem j_X12_goTeach {X : ZX} (x0 : Nat) (x1 : Int32) (x2 : Int32) (x3 : Int32)   (g : ZS) {K : ZS → Prop} (h0 : ∀ g, K g → xK X none g) : J Y_X12_goTeach X 0 0 0 [some (.ref x0), some (.int x1), some (.int x2), some (.int x3)] [] g (f_X12_goTeach x0 x1 x2 x3 g) K := by
  unfold f_X12_goTeach
  refine J_aload_n rfl rfl (show Dc Y_X12_goTeach 0 (.aload_n 0) 1 1 from ⟨by decide +kernel, rfl⟩) ?_
  refine J_iload_n rfl rfl (show Dc Y_X12_goTeach 1 (.iload_n 1) 1 2 from ⟨by decide +kernel, rfl⟩) ?_
  refine J_bipush (28 : Int32) rfl (show Dc Y_X12_goTeach 2 (.bipush 28) 2 4 from ⟨by decide +kernel, rfl⟩) ?_
  refine J_iload_n rfl rfl (show Dc Y_X12_goTeach 4 (.iload_n 2) 1 5 from ⟨by decide +kernel, rfl⟩) ?_
  refine J_iadd (show Dc Y_X12_goTeach 5 (.iadd) 1 6 from ⟨by decide +kernel, rfl⟩) ?_
  refine J_callSi (fun r => r) (fun _ => g) (show Dc Y_X12_goTeach 6 (.invokestatic 179) 3 9 from ⟨by decide +kernel, rfl⟩) w_m_RX12_179 w_st_X12_of w_cw_X12_of (c_X12_of x1 ((28 : Int32) + x2) g) rfl rfl (by decide) (Nat.le_of_ble_eq_true rfl) (by decide) (by decide) (fun v1 => ?_)
  refine J_bipush (99 : Int32) rfl (show Dc Y_X12_goTeach 9 (.bipush 99) 2 11 from ⟨by decide +kernel, rfl⟩) ?_
  refine J_aload_n rfl rfl (show Dc Y_X12_goTeach 11 (.aload_n 0) 1 12 from ⟨by decide +kernel, rfl⟩) ?_
  refine J_iload_n rfl rfl (show Dc Y_X12_goTeach 12 (.iload_n 1) 1 13 from ⟨by decide +kernel, rfl⟩) ?_
  refine J_bipush (28 : Int32) rfl (show Dc Y_X12_goTeach 13 (.bipush 28) 2 15 from ⟨by decide +kernel, rfl⟩) ?_
  refine J_iload_n rfl rfl (show Dc Y_X12_goTeach 15 (.iload_n 2) 1 16 from ⟨by decide +kernel, rfl⟩) ?_
  refine J_iadd (show Dc Y_X12_goTeach 16 (.iadd) 1 17 from ⟨by decide +kernel, rfl⟩) ?_
  refine J_callSi (fun r => r) (fun _ => g) (show Dc Y_X12_goTeach 17 (.invokestatic 179) 3 20 from ⟨by decide +kernel, rfl⟩) w_m_RX12_179 w_st_X12_of w_cw_X12_of (c_X12_of x1 ((28 : Int32) + x2) g) rfl rfl (by decide) (Nat.le_of_ble_eq_true rfl) (by decide) (by decide) (fun v2 => ?_)
  refine J_iald (show Dc Y_X12_goTeach 20 (.iaload) 1 21 from ⟨by decide +kernel, rfl⟩) (fun v3 => ?_)
  refine J_iload_n rfl rfl (show Dc Y_X12_goTeach 21 (.iload_n 3) 1 22 from ⟨by decide +kernel, rfl⟩) ?_
  refine J_iadd (show Dc Y_X12_goTeach 22 (.iadd) 1 23 from ⟨by decide +kernel, rfl⟩) ?_
  refine J_callSi (fun r => r) (fun _ => g) (show Dc Y_X12_goTeach 23 (.invokestatic 229) 3 26 from ⟨by decide +kernel, rfl⟩) w_m_RX12_229 w_st_J9_min_7cf53 w_cw_J9_min_7cf53 (c_J9_min_7cf53 (99 : Int32) (v3 + x3) g) rfl rfl (by decide) (Nat.le_of_ble_eq_true rfl) (by decide) (by decide) (fun v4 => ?_)
  refine J_iast (show Dc Y_X12_goTeach 26 (.iastore) 1 27 from ⟨by decide +kernel, rfl⟩) (fun g5 => ?_)
  exact J_ret0 (show Dc Y_X12_goTeach 27 (.return_) 1 28 from ⟨by decide +kernel, rfl⟩) rfl (h0 _) (by decide) (by decide)

theorem c_X12_goTeach {l : Launch} {D : ZD} {B0 : Nat} (x0 : Nat) (x1 : Int32) (x2 : Int32) (x3 : Int32) (g : ZS) : ∀ r, f_X12_goTeach x0 x1 x2 x3 g = some r → zCt l D B0 yX12_goTeach Y_X12_goTeach [.ref x0, .int x1, .int x2, .int x3] g none r :=
  zCt_ofF (vo := fun _ => none) (so := fun r => r) (by decide +kernel) rfl (fun h => by cases h) rfl (Nat.le_of_ble_eq_true rfl) (fun X => j_X12_goTeach x0 x1 x2 x3 g (fun _ h => h))

theorem j_X12_teach {X : ZX} (N : Nat) (x0 : Nat) (x1 : Int32) (x2 : Int32)   (g : ZS) {K : (Int32 × ZS) → Prop} (h0 : ∀ v g, K (v, g) → xK X (some (.int v)) g) : J Y_X12_teach X 0 0 0 [some (.ref x0), some (.int x1), some (.int x2), none] [] g (f_X12_teach N x0 x1 x2 g) K := by
  unfold f_X12_teach
  refine J_aload_n rfl rfl (show Dc Y_X12_teach 0 (.aload_n 0) 1 1 from ⟨by decide +kernel, rfl⟩) ?_
  refine J_iconst (0 : Int32) rfl (show Dc Y_X12_teach 1 (.iconst 0) 1 2 from ⟨by decide +kernel, rfl⟩) ?_
  refine J_putI (show Dc Y_X12_teach 2 (.putfield 109) 3 5 from ⟨by decide +kernel, rfl⟩) w_f_RX12_109 rfl rfl (fun g1 => ?_) (fun h => by cases h)
  refine J_aload_n rfl rfl (show Dc Y_X12_teach 5 (.aload_n 0) 1 6 from ⟨by decide +kernel, rfl⟩) ?_
  refine J_aload_n rfl rfl (show Dc Y_X12_teach 6 (.aload_n 0) 1 7 from ⟨by decide +kernel, rfl⟩) ?_
  refine J_getR (show Dc Y_X12_teach 7 (.getfield 9) 3 10 from ⟨by decide +kernel, rfl⟩) w_f_RX12_9 rfl (fun v2 => ?_)
  refine J_iload_n rfl rfl (show Dc Y_X12_teach 10 (.iload_n 1) 1 11 from ⟨by decide +kernel, rfl⟩) ?_
  refine J_iload_n rfl rfl (show Dc Y_X12_teach 11 (.iload_n 2) 1 12 from ⟨by decide +kernel, rfl⟩) ?_
  refine J_callVi (fun r => r) (fun _ => g1) (show Dc Y_X12_teach 12 (.invokevirtual 284) 3 15 from ⟨by decide +kernel, rfl⟩) w_m_RX12_284 w_in_X12_refusesTeach rfl w_se_X12_refusesTeach w_cw_X12_refusesTeach (c_X12_refusesTeach x0 v2 x1 x2 g1) rfl rfl (by decide) (Nat.le_of_ble_eq_true rfl) (by decide) (by decide) (fun v3 => ?_)
  refine J_istore_n [some (.ref x0), some (.int x1), some (.int x2), some (.int v3)] (show Dc Y_X12_teach 15 (.istore_n 3) 1 16 from ⟨by decide +kernel, rfl⟩) rfl (by decide) rfl rfl ?_
  refine J_iload_n rfl rfl (show Dc Y_X12_teach 16 (.iload_n 3) 1 17 from ⟨by decide +kernel, rfl⟩) ?_
  refine J_if_ge (tg := 22) (show Dc Y_X12_teach 17 (.ifCond .ge 5) 3 20 from ⟨by decide +kernel, rfl⟩) (by decide) (fun h => ?_) (fun h => ?_)
  · refine J_aload_n rfl rfl (show Dc Y_X12_teach 22 (.aload_n 0) 1 23 from ⟨by decide +kernel, rfl⟩) ?_
    refine J_aload_n rfl rfl (show Dc Y_X12_teach 23 (.aload_n 0) 1 24 from ⟨by decide +kernel, rfl⟩) ?_
    refine J_getR (show Dc Y_X12_teach 24 (.getfield 9) 3 27 from ⟨by decide +kernel, rfl⟩) w_f_RX12_9 rfl (fun v4 => ?_)
    refine J_callVv (fun r => r) (show Dc Y_X12_teach 27 (.invokevirtual 261) 3 30 from ⟨by decide +kernel, rfl⟩) w_m_RX12_261 w_in_X12_remember rfl w_se_X12_remember w_cw_X12_remember (c_X12_remember N x0 v4 g1) rfl rfl (by decide) (Nat.le_of_ble_eq_true rfl) (by decide) (by decide) (fun g5 => ?_)
    refine J_aload_n rfl rfl (show Dc Y_X12_teach 30 (.aload_n 0) 1 31 from ⟨by decide +kernel, rfl⟩) ?_
    refine J_getR (show Dc Y_X12_teach 31 (.getfield 9) 3 34 from ⟨by decide +kernel, rfl⟩) w_f_RX12_9 rfl (fun v6 => ?_)
    refine J_iload_n rfl rfl (show Dc Y_X12_teach 34 (.iload_n 1) 1 35 from ⟨by decide +kernel, rfl⟩) ?_
    refine J_iload_n rfl rfl (show Dc Y_X12_teach 35 (.iload_n 2) 1 36 from ⟨by decide +kernel, rfl⟩) ?_
    refine J_iconst (1 : Int32) rfl (show Dc Y_X12_teach 36 (.iconst 1) 1 37 from ⟨by decide +kernel, rfl⟩) ?_
    refine J_callSv (fun r => r) (show Dc Y_X12_teach 37 (.invokestatic 287) 3 40 from ⟨by decide +kernel, rfl⟩) w_m_RX12_287 w_st_X12_goTeach w_cw_X12_goTeach (c_X12_goTeach v6 x1 x2 (1 : Int32) g5) rfl rfl (by decide) (Nat.le_of_ble_eq_true rfl) (by decide) (by decide) (fun g7 => ?_)
    refine J_aload_n rfl rfl (show Dc Y_X12_teach 40 (.aload_n 0) 1 41 from ⟨by decide +kernel, rfl⟩) ?_
    refine J_getR (show Dc Y_X12_teach 41 (.getfield 9) 3 44 from ⟨by decide +kernel, rfl⟩) w_f_RX12_9 rfl (fun v8 => ?_)
    refine J_iload_n rfl rfl (show Dc Y_X12_teach 44 (.iload_n 1) 1 45 from ⟨by decide +kernel, rfl⟩) ?_
    refine J_bipush (28 : Int32) rfl (show Dc Y_X12_teach 45 (.bipush 28) 2 47 from ⟨by decide +kernel, rfl⟩) ?_
    refine J_iload_n rfl rfl (show Dc Y_X12_teach 47 (.iload_n 2) 1 48 from ⟨by decide +kernel, rfl⟩) ?_
    refine J_iadd (show Dc Y_X12_teach 48 (.iadd) 1 49 from ⟨by decide +kernel, rfl⟩) ?_
    refine J_callSi (fun r => r) (fun _ => g7) (show Dc Y_X12_teach 49 (.invokestatic 179) 3 52 from ⟨by decide +kernel, rfl⟩) w_m_RX12_179 w_st_X12_of w_cw_X12_of (c_X12_of x1 ((28 : Int32) + x2) g7) rfl rfl (by decide) (Nat.le_of_ble_eq_true rfl) (by decide) (by decide) (fun v9 => ?_)
    refine J_iald (show Dc Y_X12_teach 52 (.iaload) 1 53 from ⟨by decide +kernel, rfl⟩) (fun v10 => ?_)
    exact J_reti (show Dc Y_X12_teach 53 (.ireturn) 1 54 from ⟨by decide +kernel, rfl⟩) rfl (h0 _ _) (by decide) (by decide)
  · refine J_iload_n rfl rfl (show Dc Y_X12_teach 20 (.iload_n 3) 1 21 from ⟨by decide +kernel, rfl⟩) ?_
    exact J_reti (show Dc Y_X12_teach 21 (.ireturn) 1 22 from ⟨by decide +kernel, rfl⟩) rfl (h0 _ _) (by decide) (by decide)

theorem c_X12_teach {l : Launch} {D : ZD} {B0 : Nat} (N : Nat) (x0 : Nat) (x1 : Int32) (x2 : Int32) (g : ZS) : ∀ r, f_X12_teach N x0 x1 x2 g = some r → zCt l D B0 yX12_teach Y_X12_teach [.ref x0, .int x1, .int x2] g (some (.int r.1)) r.2 :=
  zCt_ofF (vo := fun r => some (.int r.1)) (so := fun r => r.2) (by decide +kernel) rfl (fun h => by cases h) rfl (Nat.le_of_ble_eq_true rfl) (fun X => j_X12_teach N x0 x1 x2 g (fun _ _ h => h))

theorem j_X10_insert_55 {X : ZX} (N : Nat) (x0 : Nat) (x1 : Int32) (x2 : Int32) (x3 : Int32)   (g : ZS) {K : ZS → Prop} (h0 : ∀ g, K g → xK X none g) : J Y_X10_insert X 0 0 55 [some (.ref x0), some (.int x1), some (.int x2), some (.int x3)] [] g (f_X10_insert_55 N x0 x1 x2 x3 g) K := by
  unfold f_X10_insert_55
  refine J_aload_n rfl rfl (show Dc Y_X10_insert 55 (.aload_n 0) 1 56 from ⟨by decide +kernel, rfl⟩) ?_
  refine J_getR (show Dc Y_X10_insert 56 (.getfield 9) 3 59 from ⟨by decide +kernel, rfl⟩) w_f_RX10_9 rfl (fun v1 => ?_)
  refine J_iload_n rfl rfl (show Dc Y_X10_insert 59 (.iload_n 3) 1 60 from ⟨by decide +kernel, rfl⟩) ?_
  refine J_iload_n rfl rfl (show Dc Y_X10_insert 60 (.iload_n 1) 1 61 from ⟨by decide +kernel, rfl⟩) ?_
  refine J_iast (show Dc Y_X10_insert 61 (.iastore) 1 62 from ⟨by decide +kernel, rfl⟩) (fun g2 => ?_)
  refine J_aload_n rfl rfl (show Dc Y_X10_insert 62 (.aload_n 0) 1 63 from ⟨by decide +kernel, rfl⟩) ?_
  refine J_getR (show Dc Y_X10_insert 63 (.getfield 15) 3 66 from ⟨by decide +kernel, rfl⟩) w_f_RX10_15 rfl (fun v3 => ?_)
  refine J_iload_n rfl rfl (show Dc Y_X10_insert 66 (.iload_n 3) 1 67 from ⟨by decide +kernel, rfl⟩) ?_
  refine J_iload_n rfl rfl (show Dc Y_X10_insert 67 (.iload_n 2) 1 68 from ⟨by decide +kernel, rfl⟩) ?_
  refine J_iast (show Dc Y_X10_insert 68 (.iastore) 1 69 from ⟨by decide +kernel, rfl⟩) (fun g4 => ?_)
  refine J_aload_n rfl rfl (show Dc Y_X10_insert 69 (.aload_n 0) 1 70 from ⟨by decide +kernel, rfl⟩) ?_
  refine J_dup rfl (show Dc Y_X10_insert 70 (.dup) 1 71 from ⟨by decide +kernel, rfl⟩) ?_
  refine J_getI (show Dc Y_X10_insert 71 (.getfield 23) 3 74 from ⟨by decide +kernel, rfl⟩) w_f_RX10_23 rfl (fun v5 => ?_)
  refine J_iconst (1 : Int32) rfl (show Dc Y_X10_insert 74 (.iconst 1) 1 75 from ⟨by decide +kernel, rfl⟩) ?_
  refine J_iadd (show Dc Y_X10_insert 75 (.iadd) 1 76 from ⟨by decide +kernel, rfl⟩) ?_
  refine J_putI (show Dc Y_X10_insert 76 (.putfield 23) 3 79 from ⟨by decide +kernel, rfl⟩) w_f_RX10_23 rfl rfl (fun g6 => ?_) (fun h => by cases h)
  exact J_ret0 (show Dc Y_X10_insert 79 (.return_) 1 80 from ⟨by decide +kernel, rfl⟩) rfl (h0 _) (by decide) (by decide)

theorem j_X10_insert_5 {X : ZX} (N : Nat) (x0 : Nat) (x1 : Int32) (x2 : Int32) (x3 : Int32)   (g : ZS) {K : ((Int32 × ZS) ⊕ ZS) → Prop} (h0 : ∀ g, K (.inr g) → xK X none g) (hL5 : ∀ s, K (.inl s) → zG Y_X10_insert X 0 0 5 [some (.ref x0), some (.int x1), some (.int x2), some (.int s.1)] [] s.2) : J Y_X10_insert X 0 0 5 [some (.ref x0), some (.int x1), some (.int x2), some (.int x3)] [] g (f_X10_insert_5 N x0 x1 x2 x3 g) K := by
  unfold f_X10_insert_5
  refine J_iload_n rfl rfl (show Dc Y_X10_insert 5 (.iload_n 3) 1 6 from ⟨by decide +kernel, rfl⟩) ?_
  refine J_if_le (tg := 55) (show Dc Y_X10_insert 6 (.ifCond .le 49) 3 9 from ⟨by decide +kernel, rfl⟩) (by decide) (fun h => ?_) (fun h => ?_)
  · refine J_map (f := Sum.inr) (fun _ h => h) ?_
    exact j_X10_insert_55 (K := fun o => K (.inr o)) N x0 x1 x2 x3 g h0
  · refine J_aload_n rfl rfl (show Dc Y_X10_insert 9 (.aload_n 0) 1 10 from ⟨by decide +kernel, rfl⟩) ?_
    refine J_getR (show Dc Y_X10_insert 10 (.getfield 15) 3 13 from ⟨by decide +kernel, rfl⟩) w_f_RX10_15 rfl (fun v1 => ?_)
    refine J_iload_n rfl rfl (show Dc Y_X10_insert 13 (.iload_n 3) 1 14 from ⟨by decide +kernel, rfl⟩) ?_
    refine J_iconst (1 : Int32) rfl (show Dc Y_X10_insert 14 (.iconst 1) 1 15 from ⟨by decide +kernel, rfl⟩) ?_
    refine J_isub (show Dc Y_X10_insert 15 (.isub) 1 16 from ⟨by decide +kernel, rfl⟩) ?_
    refine J_iald (show Dc Y_X10_insert 16 (.iaload) 1 17 from ⟨by decide +kernel, rfl⟩) (fun v2 => ?_)
    refine J_iload_n rfl rfl (show Dc Y_X10_insert 17 (.iload_n 2) 1 18 from ⟨by decide +kernel, rfl⟩) ?_
    refine J_icmp_ge (tg := 55) (show Dc Y_X10_insert 18 (.if_icmp .ge 37) 3 21 from ⟨by decide +kernel, rfl⟩) (by decide) (fun h => ?_) (fun h => ?_)
    · refine J_map (f := Sum.inr) (fun _ h => h) ?_
      exact j_X10_insert_55 (K := fun o => K (.inr o)) N x0 x1 x2 x3 g h0
    · refine J_aload_n rfl rfl (show Dc Y_X10_insert 21 (.aload_n 0) 1 22 from ⟨by decide +kernel, rfl⟩) ?_
      refine J_getR (show Dc Y_X10_insert 22 (.getfield 9) 3 25 from ⟨by decide +kernel, rfl⟩) w_f_RX10_9 rfl (fun v3 => ?_)
      refine J_iload_n rfl rfl (show Dc Y_X10_insert 25 (.iload_n 3) 1 26 from ⟨by decide +kernel, rfl⟩) ?_
      refine J_aload_n rfl rfl (show Dc Y_X10_insert 26 (.aload_n 0) 1 27 from ⟨by decide +kernel, rfl⟩) ?_
      refine J_getR (show Dc Y_X10_insert 27 (.getfield 9) 3 30 from ⟨by decide +kernel, rfl⟩) w_f_RX10_9 rfl (fun v4 => ?_)
      refine J_iload_n rfl rfl (show Dc Y_X10_insert 30 (.iload_n 3) 1 31 from ⟨by decide +kernel, rfl⟩) ?_
      refine J_iconst (1 : Int32) rfl (show Dc Y_X10_insert 31 (.iconst 1) 1 32 from ⟨by decide +kernel, rfl⟩) ?_
      refine J_isub (show Dc Y_X10_insert 32 (.isub) 1 33 from ⟨by decide +kernel, rfl⟩) ?_
      refine J_iald (show Dc Y_X10_insert 33 (.iaload) 1 34 from ⟨by decide +kernel, rfl⟩) (fun v5 => ?_)
      refine J_iast (show Dc Y_X10_insert 34 (.iastore) 1 35 from ⟨by decide +kernel, rfl⟩) (fun g6 => ?_)
      refine J_aload_n rfl rfl (show Dc Y_X10_insert 35 (.aload_n 0) 1 36 from ⟨by decide +kernel, rfl⟩) ?_
      refine J_getR (show Dc Y_X10_insert 36 (.getfield 15) 3 39 from ⟨by decide +kernel, rfl⟩) w_f_RX10_15 rfl (fun v7 => ?_)
      refine J_iload_n rfl rfl (show Dc Y_X10_insert 39 (.iload_n 3) 1 40 from ⟨by decide +kernel, rfl⟩) ?_
      refine J_aload_n rfl rfl (show Dc Y_X10_insert 40 (.aload_n 0) 1 41 from ⟨by decide +kernel, rfl⟩) ?_
      refine J_getR (show Dc Y_X10_insert 41 (.getfield 15) 3 44 from ⟨by decide +kernel, rfl⟩) w_f_RX10_15 rfl (fun v8 => ?_)
      refine J_iload_n rfl rfl (show Dc Y_X10_insert 44 (.iload_n 3) 1 45 from ⟨by decide +kernel, rfl⟩) ?_
      refine J_iconst (1 : Int32) rfl (show Dc Y_X10_insert 45 (.iconst 1) 1 46 from ⟨by decide +kernel, rfl⟩) ?_
      refine J_isub (show Dc Y_X10_insert 46 (.isub) 1 47 from ⟨by decide +kernel, rfl⟩) ?_
      refine J_iald (show Dc Y_X10_insert 47 (.iaload) 1 48 from ⟨by decide +kernel, rfl⟩) (fun v9 => ?_)
      refine J_iast (show Dc Y_X10_insert 48 (.iastore) 1 49 from ⟨by decide +kernel, rfl⟩) (fun g10 => ?_)
      refine J_iinc (-1 : Int32) [some (.ref x0), some (.int x1), some (.int x2), some (.int (x3 + (-1 : Int32)))] (show Dc Y_X10_insert 49 (.iinc 3 (-1)) 3 52 from ⟨by decide +kernel, rfl⟩) rfl rfl (by decide) rfl rfl ?_
      refine J_goto (tg := 5) (show Dc Y_X10_insert 52 (.goto (-47)) 3 55 from ⟨by decide +kernel, rfl⟩) (by decide) ?_
      exact J_leaf (fun h => hL5 (x3 + (-1 : Int32), g10) h)

theorem j_X10_insert {X : ZX} (N : Nat) (x0 : Nat) (x1 : Int32) (x2 : Int32)   (g : ZS) {K : ZS → Prop} (h0 : ∀ g, K g → xK X none g) : J Y_X10_insert X 0 0 0 [some (.ref x0), some (.int x1), some (.int x2), none] [] g (f_X10_insert N x0 x1 x2 g) K := by
  unfold f_X10_insert
  refine J_aload_n rfl rfl (show Dc Y_X10_insert 0 (.aload_n 0) 1 1 from ⟨by decide +kernel, rfl⟩) ?_
  refine J_getI (show Dc Y_X10_insert 1 (.getfield 23) 3 4 from ⟨by decide +kernel, rfl⟩) w_f_RX10_23 rfl (fun v1 => ?_)
  refine J_istore_n [some (.ref x0), some (.int x1), some (.int x2), some (.int v1)] (show Dc Y_X10_insert 4 (.istore_n 3) 1 5 from ⟨by decide +kernel, rfl⟩) rfl (by decide) rfl rfl ?_
  exact J_loop (X := X) (K := K) (uc := fun _ => 0) (us := fun _ => 0) (lf := fun s => [some (.ref x0), some (.int x1), some (.int x2), some (.int s.1)]) (gf := fun s => s.2) (fun s => j_X10_insert_5 (K := zKl Y_X10_insert X 5 (fun _ => 0) (fun _ => 0) (fun s => [some (.ref x0), some (.int x1), some (.int x2), some (.int s.1)]) (fun s => s.2) K) N x0 x1 x2 s.1 s.2 h0 (fun s h => h)) N (v1, g)

theorem c_X10_insert {l : Launch} {D : ZD} {B0 : Nat} (N : Nat) (x0 : Nat) (x1 : Int32) (x2 : Int32) (g : ZS) : ∀ r, f_X10_insert N x0 x1 x2 g = some r → zCt l D B0 yX10_insert Y_X10_insert [.ref x0, .int x1, .int x2] g none r :=
  zCt_ofF (vo := fun _ => none) (so := fun r => r) (by decide +kernel) rfl (fun h => by cases h) rfl (Nat.le_of_ble_eq_true rfl) (fun X => j_X10_insert N x0 x1 x2 g (fun _ h => h))

theorem j_X10_follow_42 {X : ZX} (N : Nat) (x0 : Nat) (x1 : Nat) (x2 : Nat) (x3 : Nat) (x4 : Int32)   (g : ZS) {K : ((Int32 × ZS) ⊕ ZS) → Prop} (h0 : ∀ g, K (.inr g) → xK X none g) (hL8 : ∀ s, K (.inl s) → zG Y_X10_follow X 0 0 8 [some (.ref x0), some (.ref x1), some (.ref x2), some (.ref x3), some (.int s.1)] [] s.2) : J Y_X10_follow X 0 0 42 [some (.ref x0), some (.ref x1), some (.ref x2), some (.ref x3), some (.int x4)] [] g (f_X10_follow_42 N x0 x1 x2 x3 x4 g) K := by
  unfold f_X10_follow_42
  refine J_iinc (1 : Int32) [some (.ref x0), some (.ref x1), some (.ref x2), some (.ref x3), some (.int (x4 + (1 : Int32)))] (show Dc Y_X10_follow 42 (.iinc 4 1) 3 45 from ⟨by decide +kernel, rfl⟩) rfl rfl (by decide) rfl rfl ?_
  refine J_goto (tg := 8) (show Dc Y_X10_follow 45 (.goto (-37)) 3 48 from ⟨by decide +kernel, rfl⟩) (by decide) ?_
  exact J_leaf (fun h => hL8 (x4 + (1 : Int32), g) h)

theorem j_X10_follow_8 {X : ZX} (N : Nat) (x0 : Nat) (x1 : Nat) (x2 : Nat) (x3 : Nat) (x4 : Int32)   (g : ZS) {K : ((Int32 × ZS) ⊕ ZS) → Prop} (h0 : ∀ g, K (.inr g) → xK X none g) (hL8 : ∀ s, K (.inl s) → zG Y_X10_follow X 0 0 8 [some (.ref x0), some (.ref x1), some (.ref x2), some (.ref x3), some (.int s.1)] [] s.2) : J Y_X10_follow X 0 0 8 [some (.ref x0), some (.ref x1), some (.ref x2), some (.ref x3), some (.int x4)] [] g (f_X10_follow_8 N x0 x1 x2 x3 x4 g) K := by
  unfold f_X10_follow_8
  refine J_iload rfl (show Dc Y_X10_follow 8 (.iload 4) 2 10 from ⟨by decide +kernel, rfl⟩) ?_
  refine J_bipush (8 : Int32) rfl (show Dc Y_X10_follow 10 (.bipush 8) 2 12 from ⟨by decide +kernel, rfl⟩) ?_
  refine J_icmp_ge (tg := 48) (show Dc Y_X10_follow 12 (.if_icmp .ge 36) 3 15 from ⟨by decide +kernel, rfl⟩) (by decide) (fun h => ?_) (fun h => ?_)
  · refine J_map (f := Sum.inr) (fun _ h => h) ?_
    refine J_aload_n rfl rfl (show Dc Y_X10_follow 48 (.aload_n 0) 1 49 from ⟨by decide +kernel, rfl⟩) ?_
    refine J_aload_n rfl rfl (show Dc Y_X10_follow 49 (.aload_n 0) 1 50 from ⟨by decide +kernel, rfl⟩) ?_
    refine J_getI (show Dc Y_X10_follow 50 (.getfield 23) 3 53 from ⟨by decide +kernel, rfl⟩) w_f_RX10_23 rfl (fun v1 => ?_)
    refine J_aload_n rfl rfl (show Dc Y_X10_follow 53 (.aload_n 1) 1 54 from ⟨by decide +kernel, rfl⟩) ?_
    refine J_getI (show Dc Y_X10_follow 54 (.getfield 42) 3 57 from ⟨by decide +kernel, rfl⟩) w_f_RX10_42 rfl (fun v2 => ?_)
    refine J_callSi (fun r => r) (fun _ => g) (show Dc Y_X10_follow 57 (.invokestatic 45) 3 60 from ⟨by decide +kernel, rfl⟩) w_m_RX10_45 w_st_J9_min_7cf53 w_cw_J9_min_7cf53 (c_J9_min_7cf53 v1 v2 g) rfl rfl (by decide) (Nat.le_of_ble_eq_true rfl) (by decide) (by decide) (fun v3 => ?_)
    refine J_putI (show Dc Y_X10_follow 60 (.putfield 23) 3 63 from ⟨by decide +kernel, rfl⟩) w_f_RX10_23 rfl rfl (fun g4 => ?_) (fun h => by cases h)
    exact J_ret0 (show Dc Y_X10_follow 63 (.return_) 1 64 from ⟨by decide +kernel, rfl⟩) rfl (h0 _) (by decide) (by decide)
  · refine J_aload_n rfl rfl (show Dc Y_X10_follow 15 (.aload_n 1) 1 16 from ⟨by decide +kernel, rfl⟩) ?_
    refine J_getR (show Dc Y_X10_follow 16 (.getfield 27) 3 19 from ⟨by decide +kernel, rfl⟩) w_f_RX10_27 rfl (fun v5 => ?_)
    refine J_iload rfl (show Dc Y_X10_follow 19 (.iload 4) 2 21 from ⟨by decide +kernel, rfl⟩) ?_
    refine J_iald (show Dc Y_X10_follow 21 (.iaload) 1 22 from ⟨by decide +kernel, rfl⟩) (fun v6 => ?_)
    refine J_if_le (tg := 42) (show Dc Y_X10_follow 22 (.ifCond .le 20) 3 25 from ⟨by decide +kernel, rfl⟩) (by decide) (fun h => ?_) (fun h => ?_)
    · exact j_X10_follow_42 N x0 x1 x2 x3 x4 g h0 hL8
    · refine J_aload_n rfl rfl (show Dc Y_X10_follow 25 (.aload_n 0) 1 26 from ⟨by decide +kernel, rfl⟩) ?_
      refine J_iload rfl (show Dc Y_X10_follow 26 (.iload 4) 2 28 from ⟨by decide +kernel, rfl⟩) ?_
      refine J_aload_n rfl rfl (show Dc Y_X10_follow 28 (.aload_n 2) 1 29 from ⟨by decide +kernel, rfl⟩) ?_
      refine J_aload_n rfl rfl (show Dc Y_X10_follow 29 (.aload_n 1) 1 30 from ⟨by decide +kernel, rfl⟩) ?_
      refine J_iload rfl (show Dc Y_X10_follow 30 (.iload 4) 2 32 from ⟨by decide +kernel, rfl⟩) ?_
      refine J_aload_n rfl rfl (show Dc Y_X10_follow 32 (.aload_n 3) 1 33 from ⟨by decide +kernel, rfl⟩) ?_
      refine J_iload rfl (show Dc Y_X10_follow 33 (.iload 4) 2 35 from ⟨by decide +kernel, rfl⟩) ?_
      refine J_iald (show Dc Y_X10_follow 35 (.iaload) 1 36 from ⟨by decide +kernel, rfl⟩) (fun v7 => ?_)
      refine J_callVi (fun r => r.1) (fun r => r.2) (show Dc Y_X10_follow 36 (.invokevirtual 32) 3 39 from ⟨by decide +kernel, rfl⟩) w_m_RX10_32 w_in_X5_fondness rfl w_se_X5_fondness w_cw_X5_fondness (c_X5_fondness N x2 x1 x4 v7 g) rfl rfl (by decide) (Nat.le_of_ble_eq_true rfl) (by decide) (by decide) (fun r8 => ?_)
      refine J_callVv (fun r => r) (show Dc Y_X10_follow 39 (.invokevirtual 38) 3 42 from ⟨by decide +kernel, rfl⟩) w_m_RX10_38 w_in_X10_insert rfl w_se_X10_insert w_cw_X10_insert (c_X10_insert N x0 x4 r8.1 r8.2) rfl rfl (by decide) (Nat.le_of_ble_eq_true rfl) (by decide) (by decide) (fun g9 => ?_)
      exact j_X10_follow_42 N x0 x1 x2 x3 x4 g9 h0 hL8

theorem j_X10_follow {X : ZX} (N : Nat) (x0 : Nat) (x1 : Nat) (x2 : Nat) (x3 : Nat)   (g : ZS) {K : ZS → Prop} (h0 : ∀ g, K g → xK X none g) : J Y_X10_follow X 0 0 0 [some (.ref x0), some (.ref x1), some (.ref x2), some (.ref x3), none] [] g (f_X10_follow N x0 x1 x2 x3 g) K := by
  unfold f_X10_follow
  refine J_aload_n rfl rfl (show Dc Y_X10_follow 0 (.aload_n 0) 1 1 from ⟨by decide +kernel, rfl⟩) ?_
  refine J_iconst (0 : Int32) rfl (show Dc Y_X10_follow 1 (.iconst 0) 1 2 from ⟨by decide +kernel, rfl⟩) ?_
  refine J_putI (show Dc Y_X10_follow 2 (.putfield 23) 3 5 from ⟨by decide +kernel, rfl⟩) w_f_RX10_23 rfl rfl (fun g1 => ?_) (fun h => by cases h)
  refine J_iconst (0 : Int32) rfl (show Dc Y_X10_follow 5 (.iconst 0) 1 6 from ⟨by decide +kernel, rfl⟩) ?_
  refine J_istore [some (.ref x0), some (.ref x1), some (.ref x2), some (.ref x3), some (.int (0 : Int32))] (show Dc Y_X10_follow 6 (.istore 4) 2 8 from ⟨by decide +kernel, rfl⟩) (by decide) rfl rfl ?_
  exact J_loop (X := X) (K := K) (uc := fun _ => 0) (us := fun _ => 0) (lf := fun s => [some (.ref x0), some (.ref x1), some (.ref x2), some (.ref x3), some (.int s.1)]) (gf := fun s => s.2) (fun s => j_X10_follow_8 (K := zKl Y_X10_follow X 8 (fun _ => 0) (fun _ => 0) (fun s => [some (.ref x0), some (.ref x1), some (.ref x2), some (.ref x3), some (.int s.1)]) (fun s => s.2) K) N x0 x1 x2 x3 s.1 s.2 h0 (fun s h => h)) N ((0 : Int32), g1)

theorem c_X10_follow {l : Launch} {D : ZD} {B0 : Nat} (N : Nat) (x0 : Nat) (x1 : Nat) (x2 : Nat) (x3 : Nat) (g : ZS) : ∀ r, f_X10_follow N x0 x1 x2 x3 g = some r → zCt l D B0 yX10_follow Y_X10_follow [.ref x0, .ref x1, .ref x2, .ref x3] g none r :=
  zCt_ofF (vo := fun _ => none) (so := fun r => r) (by decide +kernel) rfl (fun h => by cases h) rfl (Nat.le_of_ble_eq_true rfl) (fun X => j_X10_follow N x0 x1 x2 x3 g (fun _ h => h))

theorem j_X10_at_22 {X : ZX}  (s0 : Int32)  (g : ZS) {K : Int32 → Prop} (h0 : ∀ v, K v → xK X (some (.int v)) g) : J Y_X10_at X 0 0 22 [none, none] [.int s0] g (f_X10_at_22 s0 g) K := by
  unfold f_X10_at_22
  exact J_reti (show Dc Y_X10_at 22 (.ireturn) 1 23 from ⟨by decide +kernel, rfl⟩) rfl (h0 _) (by decide) (by decide)

theorem j_X10_at_21 {X : ZX}    (g : ZS) {K : Int32 → Prop} (h0 : ∀ v, K v → xK X (some (.int v)) g) : J Y_X10_at X 0 0 21 [none, none] [] g (f_X10_at_21 g) K := by
  unfold f_X10_at_21
  refine J_iconst (-1 : Int32) rfl (show Dc Y_X10_at 21 (.iconst (-1)) 1 22 from ⟨by decide +kernel, rfl⟩) ?_
  exact j_X10_at_22 (-1 : Int32) g h0

theorem j_X10_at {X : ZX} (x0 : Nat) (x1 : Int32)   (g : ZS) {K : Int32 → Prop} (h0 : ∀ v, K v → xK X (some (.int v)) g) : J Y_X10_at X 0 0 0 [some (.ref x0), some (.int x1)] [] g (f_X10_at x0 x1 g) K := by
  unfold f_X10_at
  refine J_iload_n rfl rfl (show Dc Y_X10_at 0 (.iload_n 1) 1 1 from ⟨by decide +kernel, rfl⟩) ?_
  refine J_if_lt (tg := 21) (show Dc Y_X10_at 1 (.ifCond .lt 20) 3 4 from ⟨by decide +kernel, rfl⟩) (by decide) (fun h => ?_) (fun h => ?_)
  · refine J_mask [false, false] ?_
    exact j_X10_at_21 g h0
  · refine J_iload_n rfl rfl (show Dc Y_X10_at 4 (.iload_n 1) 1 5 from ⟨by decide +kernel, rfl⟩) ?_
    refine J_aload_n rfl rfl (show Dc Y_X10_at 5 (.aload_n 0) 1 6 from ⟨by decide +kernel, rfl⟩) ?_
    refine J_getI (show Dc Y_X10_at 6 (.getfield 23) 3 9 from ⟨by decide +kernel, rfl⟩) w_f_RX10_23 rfl (fun v1 => ?_)
    refine J_icmp_ge (tg := 21) (show Dc Y_X10_at 9 (.if_icmp .ge 12) 3 12 from ⟨by decide +kernel, rfl⟩) (by decide) (fun h => ?_) (fun h => ?_)
    · refine J_mask [false, false] ?_
      exact j_X10_at_21 g h0
    · refine J_aload_n rfl rfl (show Dc Y_X10_at 12 (.aload_n 0) 1 13 from ⟨by decide +kernel, rfl⟩) ?_
      refine J_getR (show Dc Y_X10_at 13 (.getfield 9) 3 16 from ⟨by decide +kernel, rfl⟩) w_f_RX10_9 rfl (fun v2 => ?_)
      refine J_iload_n rfl rfl (show Dc Y_X10_at 16 (.iload_n 1) 1 17 from ⟨by decide +kernel, rfl⟩) ?_
      refine J_iald (show Dc Y_X10_at 17 (.iaload) 1 18 from ⟨by decide +kernel, rfl⟩) (fun v3 => ?_)
      refine J_goto (tg := 22) (show Dc Y_X10_at 18 (.goto 4) 3 21 from ⟨by decide +kernel, rfl⟩) (by decide) ?_
      refine J_mask [false, false] ?_
      exact j_X10_at_22 v3 g h0

theorem c_X10_at {l : Launch} {D : ZD} {B0 : Nat} (x0 : Nat) (x1 : Int32) (g : ZS) : ∀ r, f_X10_at x0 x1 g = some r → zCt l D B0 yX10_at Y_X10_at [.ref x0, .int x1] g (some (.int r)) g :=
  zCt_ofF (vo := fun r => some (.int r)) (so := fun _ => g) (by decide +kernel) rfl (fun h => by cases h) rfl (Nat.le_of_ble_eq_true rfl) (fun X => j_X10_at x0 x1 g (fun _ h => h))

theorem j_X11_utter_129 {X : ZX} (N : Nat) (x1 : Nat) (x2 : Int32) (x3 : Nat) (x4 : Int32) (x5 : Int32)   (g : ZS) {K : ((Int32 × ZS) ⊕ (Int32 × ZS)) → Prop} (h0 : ∀ v g, K (.inr (v, g)) → xK X (some (.int v)) g) (hL78 : ∀ s, K (.inl s) → zG Y_X11_utter X 0 0 78 [none, some (.ref x1), some (.int x2), some (.ref x3), some (.int x4), some (.int s.1), none] [] s.2) : J Y_X11_utter X 0 0 129 [none, some (.ref x1), some (.int x2), some (.ref x3), some (.int x4), some (.int x5), none] [] g (f_X11_utter_129 N x1 x2 x3 x4 x5 g) K := by
  unfold f_X11_utter_129
  refine J_iinc (1 : Int32) [none, some (.ref x1), some (.int x2), some (.ref x3), some (.int x4), some (.int (x5 + (1 : Int32))), none] (show Dc Y_X11_utter 129 (.iinc 5 1) 3 132 from ⟨by decide +kernel, rfl⟩) rfl rfl (by decide) rfl rfl ?_
  refine J_goto (tg := 78) (show Dc Y_X11_utter 132 (.goto (-54)) 3 135 from ⟨by decide +kernel, rfl⟩) (by decide) ?_
  exact J_leaf (fun h => hL78 (x5 + (1 : Int32), g) h)

theorem j_X11_utter_78 {X : ZX} (N : Nat) (x1 : Nat) (x2 : Int32) (x3 : Nat) (x4 : Int32) (x5 : Int32)   (g : ZS) {K : ((Int32 × ZS) ⊕ (Int32 × ZS)) → Prop} (h0 : ∀ v g, K (.inr (v, g)) → xK X (some (.int v)) g) (hL78 : ∀ s, K (.inl s) → zG Y_X11_utter X 0 0 78 [none, some (.ref x1), some (.int x2), some (.ref x3), some (.int x4), some (.int s.1), none] [] s.2) : J Y_X11_utter X 0 0 78 [none, some (.ref x1), some (.int x2), some (.ref x3), some (.int x4), some (.int x5), none] [] g (f_X11_utter_78 N x1 x2 x3 x4 x5 g) K := by
  unfold f_X11_utter_78
  refine J_iload rfl (show Dc Y_X11_utter 78 (.iload 5) 2 80 from ⟨by decide +kernel, rfl⟩) ?_
  refine J_aload_n rfl rfl (show Dc Y_X11_utter 80 (.aload_n 1) 1 81 from ⟨by decide +kernel, rfl⟩) ?_
  refine J_getI (show Dc Y_X11_utter 81 (.getfield 146) 3 84 from ⟨by decide +kernel, rfl⟩) w_f_RX11_146 rfl (fun v1 => ?_)
  refine J_icmp_ge (tg := 135) (show Dc Y_X11_utter 84 (.if_icmp .ge 51) 3 87 from ⟨by decide +kernel, rfl⟩) (by decide) (fun h => ?_) (fun h => ?_)
  · refine J_map (f := Sum.inr) (fun _ h => h) ?_
    refine J_iload rfl (show Dc Y_X11_utter 135 (.iload 4) 2 137 from ⟨by decide +kernel, rfl⟩) ?_
    exact J_reti (show Dc Y_X11_utter 137 (.ireturn) 1 138 from ⟨by decide +kernel, rfl⟩) rfl (h0 _ _) (by decide) (by decide)
  · refine J_aload_n rfl rfl (show Dc Y_X11_utter 87 (.aload_n 1) 1 88 from ⟨by decide +kernel, rfl⟩) ?_
    refine J_getR (show Dc Y_X11_utter 88 (.getfield 171) 3 91 from ⟨by decide +kernel, rfl⟩) w_f_RX11_171 rfl (fun v2 => ?_)
    refine J_iload rfl (show Dc Y_X11_utter 91 (.iload 5) 2 93 from ⟨by decide +kernel, rfl⟩) ?_
    refine J_aald (kd := 25) (by decide) (by decide) (show Dc Y_X11_utter 93 (.aaload) 1 94 from ⟨by decide +kernel, rfl⟩) (fun v3 => ?_)
    refine J_astore [none, some (.ref x1), some (.int x2), some (.ref x3), some (.int x4), some (.int x5), some (.ref v3)] (show Dc Y_X11_utter 94 (.astore 6) 2 96 from ⟨by decide +kernel, rfl⟩) (by decide) rfl rfl ?_
    refine J_iload rfl (show Dc Y_X11_utter 96 (.iload 5) 2 98 from ⟨by decide +kernel, rfl⟩) ?_
    refine J_iload_n rfl rfl (show Dc Y_X11_utter 98 (.iload_n 2) 1 99 from ⟨by decide +kernel, rfl⟩) ?_
    refine J_icmp_eq (tg := 129) (show Dc Y_X11_utter 99 (.if_icmp .eq 30) 3 102 from ⟨by decide +kernel, rfl⟩) (by decide) (fun h => ?_) (fun h => ?_)
    · refine J_mask [false, true, true, true, true, true, false] ?_
      exact j_X11_utter_129 N x1 x2 x3 x4 x5 g h0 hL78
    · refine J_aload rfl (show Dc Y_X11_utter 102 (.aload 6) 2 104 from ⟨by decide +kernel, rfl⟩) ?_
      refine J_getI (show Dc Y_X11_utter 104 (.getfield 181) 3 107 from ⟨by decide +kernel, rfl⟩) w_f_RX11_181 rfl (fun v4 => ?_)
      refine J_if_ne (tg := 129) (show Dc Y_X11_utter 107 (.ifCond .ne 22) 3 110 from ⟨by decide +kernel, rfl⟩) (by decide) (fun h => ?_) (fun h => ?_)
      · refine J_mask [false, true, true, true, true, true, false] ?_
        exact j_X11_utter_129 N x1 x2 x3 x4 x5 g h0 hL78
      · refine J_aload rfl (show Dc Y_X11_utter 110 (.aload 6) 2 112 from ⟨by decide +kernel, rfl⟩) ?_
        refine J_getI (show Dc Y_X11_utter 112 (.getfield 175) 3 115 from ⟨by decide +kernel, rfl⟩) w_f_RX11_175 rfl (fun v5 => ?_)
        refine J_aload_n rfl rfl (show Dc Y_X11_utter 115 (.aload_n 3) 1 116 from ⟨by decide +kernel, rfl⟩) ?_
        refine J_getI (show Dc Y_X11_utter 116 (.getfield 175) 3 119 from ⟨by decide +kernel, rfl⟩) w_f_RX11_175 rfl (fun v6 => ?_)
        refine J_icmp_ne (tg := 129) (show Dc Y_X11_utter 119 (.if_icmp .ne 10) 3 122 from ⟨by decide +kernel, rfl⟩) (by decide) (fun h => ?_) (fun h => ?_)
        · refine J_mask [false, true, true, true, true, true, false] ?_
          exact j_X11_utter_129 N x1 x2 x3 x4 x5 g h0 hL78
        · refine J_aload rfl (show Dc Y_X11_utter 122 (.aload 6) 2 124 from ⟨by decide +kernel, rfl⟩) ?_
          refine J_iload rfl (show Dc Y_X11_utter 124 (.iload 4) 2 126 from ⟨by decide +kernel, rfl⟩) ?_
          refine J_callVv (fun r => r) (show Dc Y_X11_utter 126 (.invokevirtual 267) 3 129 from ⟨by decide +kernel, rfl⟩) w_m_RX11_267 w_in_X0_take rfl w_se_X0_take w_cw_X0_take (c_X0_take v3 x4 g) rfl rfl (by decide) (Nat.le_of_ble_eq_true rfl) (by decide) (by decide) (fun g7 => ?_)
          refine J_mask [false, true, true, true, true, true, false] ?_
          exact j_X11_utter_129 N x1 x2 x3 x4 x5 g7 h0 hL78

theorem j_X11_utter {X : ZX} (N : Nat) (x0 : Nat) (x1 : Nat) (x2 : Int32)   (g : ZS) {K : (Int32 × ZS) → Prop} (h0 : ∀ v g, K (v, g) → xK X (some (.int v)) g) : J Y_X11_utter X 0 0 0 [some (.ref x0), some (.ref x1), some (.int x2), none, none, none, none] [] g (f_X11_utter N x0 x1 x2 g) K := by
  unfold f_X11_utter
  refine J_aload_n rfl rfl (show Dc Y_X11_utter 0 (.aload_n 1) 1 1 from ⟨by decide +kernel, rfl⟩) ?_
  refine J_iload_n rfl rfl (show Dc Y_X11_utter 1 (.iload_n 2) 1 2 from ⟨by decide +kernel, rfl⟩) ?_
  refine J_callVi (fun r => r) (fun _ => g) (show Dc Y_X11_utter 2 (.invokevirtual 241) 3 5 from ⟨by decide +kernel, rfl⟩) w_m_RX11_241 w_in_X6_isIn rfl w_se_X6_isIn w_cw_X6_isIn (c_X6_isIn x1 x2 g) rfl rfl (by decide) (Nat.le_of_ble_eq_true rfl) (by decide) (by decide) (fun v1 => ?_)
  refine J_if_ne (tg := 10) (show Dc Y_X11_utter 5 (.ifCond .ne 5) 3 8 from ⟨by decide +kernel, rfl⟩) (by decide) (fun h => ?_) (fun h => ?_)
  · refine J_aload_n rfl rfl (show Dc Y_X11_utter 10 (.aload_n 1) 1 11 from ⟨by decide +kernel, rfl⟩) ?_
    refine J_getR (show Dc Y_X11_utter 11 (.getfield 171) 3 14 from ⟨by decide +kernel, rfl⟩) w_f_RX11_171 rfl (fun v2 => ?_)
    refine J_iload_n rfl rfl (show Dc Y_X11_utter 14 (.iload_n 2) 1 15 from ⟨by decide +kernel, rfl⟩) ?_
    refine J_aald (kd := 25) (by decide) (by decide) (show Dc Y_X11_utter 15 (.aaload) 1 16 from ⟨by decide +kernel, rfl⟩) (fun v3 => ?_)
    refine J_astore_n [some (.ref x0), some (.ref x1), some (.int x2), some (.ref v3), none, none, none] (show Dc Y_X11_utter 16 (.astore_n 3) 1 17 from ⟨by decide +kernel, rfl⟩) rfl (by decide) rfl rfl ?_
    refine J_aload_n rfl rfl (show Dc Y_X11_utter 17 (.aload_n 3) 1 18 from ⟨by decide +kernel, rfl⟩) ?_
    refine J_getI (show Dc Y_X11_utter 18 (.getfield 181) 3 21 from ⟨by decide +kernel, rfl⟩) w_f_RX11_181 rfl (fun v4 => ?_)
    refine J_if_eq (tg := 27) (show Dc Y_X11_utter 21 (.ifCond .eq 6) 3 24 from ⟨by decide +kernel, rfl⟩) (by decide) (fun h => ?_) (fun h => ?_)
    · refine J_aload_n rfl rfl (show Dc Y_X11_utter 27 (.aload_n 0) 1 28 from ⟨by decide +kernel, rfl⟩) ?_
      refine J_getR (show Dc Y_X11_utter 28 (.getfield 79) 3 31 from ⟨by decide +kernel, rfl⟩) w_f_RX11_79 rfl (fun v5 => ?_)
      refine J_aload_n rfl rfl (show Dc Y_X11_utter 31 (.aload_n 3) 1 32 from ⟨by decide +kernel, rfl⟩) ?_
      refine J_aload_n rfl rfl (show Dc Y_X11_utter 32 (.aload_n 0) 1 33 from ⟨by decide +kernel, rfl⟩) ?_
      refine J_getR (show Dc Y_X11_utter 33 (.getfield 37) 3 36 from ⟨by decide +kernel, rfl⟩) w_f_RX11_37 rfl (fun v6 => ?_)
      refine J_aload_n rfl rfl (show Dc Y_X11_utter 36 (.aload_n 0) 1 37 from ⟨by decide +kernel, rfl⟩) ?_
      refine J_getR (show Dc Y_X11_utter 37 (.getfield 30) 3 40 from ⟨by decide +kernel, rfl⟩) w_f_RX11_30 rfl (fun v7 => ?_)
      refine J_callVv (fun r => r) (show Dc Y_X11_utter 40 (.invokevirtual 289) 3 43 from ⟨by decide +kernel, rfl⟩) w_m_RX11_289 w_in_X10_follow rfl w_se_X10_follow w_cw_X10_follow (c_X10_follow N v5 v3 v6 v7 g) rfl rfl (by decide) (Nat.le_of_ble_eq_true rfl) (by decide) (by decide) (fun g8 => ?_)
      refine J_aload_n rfl rfl (show Dc Y_X11_utter 43 (.aload_n 0) 1 44 from ⟨by decide +kernel, rfl⟩) ?_
      refine J_getR (show Dc Y_X11_utter 44 (.getfield 79) 3 47 from ⟨by decide +kernel, rfl⟩) w_f_RX11_79 rfl (fun v9 => ?_)
      refine J_aload_n rfl rfl (show Dc Y_X11_utter 47 (.aload_n 3) 1 48 from ⟨by decide +kernel, rfl⟩) ?_
      refine J_getI (show Dc Y_X11_utter 48 (.getfield 191) 3 51 from ⟨by decide +kernel, rfl⟩) w_f_RX11_191 rfl (fun v10 => ?_)
      refine J_callVi (fun r => r) (fun _ => g8) (show Dc Y_X11_utter 51 (.invokevirtual 293) 3 54 from ⟨by decide +kernel, rfl⟩) w_m_RX11_293 w_in_X10_at rfl w_se_X10_at w_cw_X10_at (c_X10_at v9 v10 g8) rfl rfl (by decide) (Nat.le_of_ble_eq_true rfl) (by decide) (by decide) (fun v11 => ?_)
      refine J_istore [some (.ref x0), some (.ref x1), some (.int x2), some (.ref v3), some (.int v11), none, none] (show Dc Y_X11_utter 54 (.istore 4) 2 56 from ⟨by decide +kernel, rfl⟩) (by decide) rfl rfl ?_
      refine J_iload rfl (show Dc Y_X11_utter 56 (.iload 4) 2 58 from ⟨by decide +kernel, rfl⟩) ?_
      refine J_iconst (-1 : Int32) rfl (show Dc Y_X11_utter 58 (.iconst (-1)) 1 59 from ⟨by decide +kernel, rfl⟩) ?_
      refine J_icmp_ne (tg := 65) (show Dc Y_X11_utter 59 (.if_icmp .ne 6) 3 62 from ⟨by decide +kernel, rfl⟩) (by decide) (fun h => ?_) (fun h => ?_)
      · refine J_aload_n rfl rfl (show Dc Y_X11_utter 65 (.aload_n 3) 1 66 from ⟨by decide +kernel, rfl⟩) ?_
        refine J_dup rfl (show Dc Y_X11_utter 66 (.dup) 1 67 from ⟨by decide +kernel, rfl⟩) ?_
        refine J_getI (show Dc Y_X11_utter 67 (.getfield 191) 3 70 from ⟨by decide +kernel, rfl⟩) w_f_RX11_191 rfl (fun v12 => ?_)
        refine J_iconst (1 : Int32) rfl (show Dc Y_X11_utter 70 (.iconst 1) 1 71 from ⟨by decide +kernel, rfl⟩) ?_
        refine J_iadd (show Dc Y_X11_utter 71 (.iadd) 1 72 from ⟨by decide +kernel, rfl⟩) ?_
        refine J_putI (show Dc Y_X11_utter 72 (.putfield 191) 3 75 from ⟨by decide +kernel, rfl⟩) w_f_RX11_191 rfl rfl (fun g13 => ?_) (fun h => by cases h)
        refine J_iconst (0 : Int32) rfl (show Dc Y_X11_utter 75 (.iconst 0) 1 76 from ⟨by decide +kernel, rfl⟩) ?_
        refine J_istore [some (.ref x0), some (.ref x1), some (.int x2), some (.ref v3), some (.int v11), some (.int (0 : Int32)), none] (show Dc Y_X11_utter 76 (.istore 5) 2 78 from ⟨by decide +kernel, rfl⟩) (by decide) rfl rfl ?_
        refine J_mask [false, true, true, true, true, true, false] ?_
        exact J_loop (X := X) (K := K) (uc := fun _ => 0) (us := fun _ => 0) (lf := fun s => [none, some (.ref x1), some (.int x2), some (.ref v3), some (.int v11), some (.int s.1), none]) (gf := fun s => s.2) (fun s => j_X11_utter_78 (K := zKl Y_X11_utter X 78 (fun _ => 0) (fun _ => 0) (fun s => [none, some (.ref x1), some (.int x2), some (.ref v3), some (.int v11), some (.int s.1), none]) (fun s => s.2) K) N x1 x2 v3 v11 s.1 s.2 h0 (fun s h => h)) N ((0 : Int32), g13)
      · refine J_bipush (-3 : Int32) rfl (show Dc Y_X11_utter 62 (.bipush (-3)) 2 64 from ⟨by decide +kernel, rfl⟩) ?_
        exact J_reti (show Dc Y_X11_utter 64 (.ireturn) 1 65 from ⟨by decide +kernel, rfl⟩) rfl (h0 _ _) (by decide) (by decide)
    · refine J_bipush (-2 : Int32) rfl (show Dc Y_X11_utter 24 (.bipush (-2)) 2 26 from ⟨by decide +kernel, rfl⟩) ?_
      exact J_reti (show Dc Y_X11_utter 26 (.ireturn) 1 27 from ⟨by decide +kernel, rfl⟩) rfl (h0 _ _) (by decide) (by decide)
  · refine J_iconst (-1 : Int32) rfl (show Dc Y_X11_utter 8 (.iconst (-1)) 1 9 from ⟨by decide +kernel, rfl⟩) ?_
    exact J_reti (show Dc Y_X11_utter 9 (.ireturn) 1 10 from ⟨by decide +kernel, rfl⟩) rfl (h0 _ _) (by decide) (by decide)

theorem c_X11_utter {l : Launch} {D : ZD} {B0 : Nat} (N : Nat) (x0 : Nat) (x1 : Nat) (x2 : Int32) (g : ZS) : ∀ r, f_X11_utter N x0 x1 x2 g = some r → zCt l D B0 yX11_utter Y_X11_utter [.ref x0, .ref x1, .int x2] g (some (.int r.1)) r.2 :=
  zCt_ofF (vo := fun r => some (.int r.1)) (so := fun r => r.2) (by decide +kernel) rfl (fun h => by cases h) rfl (Nat.le_of_ble_eq_true rfl) (fun X => j_X11_utter N x0 x1 x2 g (fun _ _ h => h))

theorem j_X6_spoken_32 {X : ZX} (N : Nat) (x0 : Nat) (x2 : Int32) (s0 : Int32) (s1 : Int32)  (g : ZS) {K : ((Int32 × Int32) ⊕ Int32) → Prop} (h0 : ∀ v, K (.inr v) → xK X (some (.int v)) g) (hL4 : ∀ s, K (.inl s) → zG Y_X6_spoken X 0 0 4 [some (.ref x0), some (.int s.1), some (.int s.2)] [] g) : J Y_X6_spoken X 0 0 32 [some (.ref x0), none, some (.int x2)] [.int s1, .int s0] g (f_X6_spoken_32 N x0 x2 s0 s1 g) K := by
  unfold f_X6_spoken_32
  refine J_ior (show Dc Y_X6_spoken 32 (.ior) 1 33 from ⟨by decide +kernel, rfl⟩) ?_
  refine J_istore_n [some (.ref x0), some (.int (s0 ||| s1)), some (.int x2)] (show Dc Y_X6_spoken 33 (.istore_n 1) 1 34 from ⟨by decide +kernel, rfl⟩) rfl (by decide) rfl rfl ?_
  refine J_iinc (1 : Int32) [some (.ref x0), some (.int (s0 ||| s1)), some (.int (x2 + (1 : Int32)))] (show Dc Y_X6_spoken 34 (.iinc 2 1) 3 37 from ⟨by decide +kernel, rfl⟩) rfl rfl (by decide) rfl rfl ?_
  refine J_goto (tg := 4) (show Dc Y_X6_spoken 37 (.goto (-33)) 3 40 from ⟨by decide +kernel, rfl⟩) (by decide) ?_
  exact J_leaf (fun h => hL4 (s0 ||| s1, x2 + (1 : Int32)) h)

theorem j_X6_spoken_4 {X : ZX} (N : Nat) (x0 : Nat) (x1 : Int32) (x2 : Int32)   (g : ZS) {K : ((Int32 × Int32) ⊕ Int32) → Prop} (h0 : ∀ v, K (.inr v) → xK X (some (.int v)) g) (hL4 : ∀ s, K (.inl s) → zG Y_X6_spoken X 0 0 4 [some (.ref x0), some (.int s.1), some (.int s.2)] [] g) : J Y_X6_spoken X 0 0 4 [some (.ref x0), some (.int x1), some (.int x2)] [] g (f_X6_spoken_4 N x0 x1 x2 g) K := by
  unfold f_X6_spoken_4
  refine J_iload_n rfl rfl (show Dc Y_X6_spoken 4 (.iload_n 2) 1 5 from ⟨by decide +kernel, rfl⟩) ?_
  refine J_aload_n rfl rfl (show Dc Y_X6_spoken 5 (.aload_n 0) 1 6 from ⟨by decide +kernel, rfl⟩) ?_
  refine J_getI (show Dc Y_X6_spoken 6 (.getfield 18) 3 9 from ⟨by decide +kernel, rfl⟩) w_f_RX6_18 rfl (fun v1 => ?_)
  refine J_icmp_ge (tg := 40) (show Dc Y_X6_spoken 9 (.if_icmp .ge 31) 3 12 from ⟨by decide +kernel, rfl⟩) (by decide) (fun h => ?_) (fun h => ?_)
  · refine J_map (f := Sum.inr) (fun _ h => h) ?_
    refine J_iload_n rfl rfl (show Dc Y_X6_spoken 40 (.iload_n 1) 1 41 from ⟨by decide +kernel, rfl⟩) ?_
    exact J_reti (show Dc Y_X6_spoken 41 (.ireturn) 1 42 from ⟨by decide +kernel, rfl⟩) rfl (h0 _) (by decide) (by decide)
  · refine J_iload_n rfl rfl (show Dc Y_X6_spoken 12 (.iload_n 1) 1 13 from ⟨by decide +kernel, rfl⟩) ?_
    refine J_aload_n rfl rfl (show Dc Y_X6_spoken 13 (.aload_n 0) 1 14 from ⟨by decide +kernel, rfl⟩) ?_
    refine J_getR (show Dc Y_X6_spoken 14 (.getfield 11) 3 17 from ⟨by decide +kernel, rfl⟩) w_f_RX6_11 rfl (fun v2 => ?_)
    refine J_iload_n rfl rfl (show Dc Y_X6_spoken 17 (.iload_n 2) 1 18 from ⟨by decide +kernel, rfl⟩) ?_
    refine J_aald (kd := 25) (by decide) (by decide) (show Dc Y_X6_spoken 18 (.aaload) 1 19 from ⟨by decide +kernel, rfl⟩) (fun v3 => ?_)
    refine J_getI (show Dc Y_X6_spoken 19 (.getfield 39) 3 22 from ⟨by decide +kernel, rfl⟩) w_f_RX6_39 rfl (fun v4 => ?_)
    refine J_if_le (tg := 31) (show Dc Y_X6_spoken 22 (.ifCond .le 9) 3 25 from ⟨by decide +kernel, rfl⟩) (by decide) (fun h => ?_) (fun h => ?_)
    · refine J_iconst (0 : Int32) rfl (show Dc Y_X6_spoken 31 (.iconst 0) 1 32 from ⟨by decide +kernel, rfl⟩) ?_
      refine J_mask [true, false, true] ?_
      exact j_X6_spoken_32 N x0 x2 x1 (0 : Int32) g h0 hL4
    · refine J_iconst (1 : Int32) rfl (show Dc Y_X6_spoken 25 (.iconst 1) 1 26 from ⟨by decide +kernel, rfl⟩) ?_
      refine J_iload_n rfl rfl (show Dc Y_X6_spoken 26 (.iload_n 2) 1 27 from ⟨by decide +kernel, rfl⟩) ?_
      refine J_ishl (show Dc Y_X6_spoken 27 (.ishl) 1 28 from ⟨by decide +kernel, rfl⟩) ?_
      refine J_goto (tg := 32) (show Dc Y_X6_spoken 28 (.goto 4) 3 31 from ⟨by decide +kernel, rfl⟩) (by decide) ?_
      refine J_mask [true, false, true] ?_
      exact j_X6_spoken_32 N x0 x2 x1 ((1 : Int32) <<< (x2 &&& 31)) g h0 hL4

theorem j_X6_spoken {X : ZX} (N : Nat) (x0 : Nat)   (g : ZS) {K : Int32 → Prop} (h0 : ∀ v, K v → xK X (some (.int v)) g) : J Y_X6_spoken X 0 0 0 [some (.ref x0), none, none] [] g (f_X6_spoken N x0 g) K := by
  unfold f_X6_spoken
  refine J_iconst (0 : Int32) rfl (show Dc Y_X6_spoken 0 (.iconst 0) 1 1 from ⟨by decide +kernel, rfl⟩) ?_
  refine J_istore_n [some (.ref x0), some (.int (0 : Int32)), none] (show Dc Y_X6_spoken 1 (.istore_n 1) 1 2 from ⟨by decide +kernel, rfl⟩) rfl (by decide) rfl rfl ?_
  refine J_iconst (0 : Int32) rfl (show Dc Y_X6_spoken 2 (.iconst 0) 1 3 from ⟨by decide +kernel, rfl⟩) ?_
  refine J_istore_n [some (.ref x0), some (.int (0 : Int32)), some (.int (0 : Int32))] (show Dc Y_X6_spoken 3 (.istore_n 2) 1 4 from ⟨by decide +kernel, rfl⟩) rfl (by decide) rfl rfl ?_
  exact J_loop (X := X) (K := K) (uc := fun _ => 0) (us := fun _ => 0) (lf := fun s => [some (.ref x0), some (.int s.1), some (.int s.2)]) (gf := fun s => g) (fun s => j_X6_spoken_4 (K := zKl Y_X6_spoken X 4 (fun _ => 0) (fun _ => 0) (fun s => [some (.ref x0), some (.int s.1), some (.int s.2)]) (fun s => g) K) N x0 s.1 s.2 g h0 (fun s h => h)) N ((0 : Int32), (0 : Int32))

theorem c_X6_spoken {l : Launch} {D : ZD} {B0 : Nat} (N : Nat) (x0 : Nat) (g : ZS) : ∀ r, f_X6_spoken N x0 g = some r → zCt l D B0 yX6_spoken Y_X6_spoken [.ref x0] g (some (.int r)) g :=
  zCt_ofF (vo := fun r => some (.int r)) (so := fun _ => g) (by decide +kernel) rfl (fun h => by cases h) rfl (Nat.le_of_ble_eq_true rfl) (fun X => j_X6_spoken N x0 g (fun _ h => h))

theorem j_X11_silence_13 {X : ZX} (N : Nat) (x0 : Nat) (x1 : Int32) (x2 : Int32)   (g : ZS) {K : ((Int32 × ZS) ⊕ (Int32 × ZS)) → Prop} (h0 : ∀ v g, K (.inr (v, g)) → xK X (some (.int v)) g) (hL13 : ∀ s, K (.inl s) → zG Y_X11_silence X 0 0 13 [some (.ref x0), some (.int x1), some (.int s.1)] [] s.2) : J Y_X11_silence X 0 0 13 [some (.ref x0), some (.int x1), some (.int x2)] [] g (f_X11_silence_13 N x0 x1 x2 g) K := by
  unfold f_X11_silence_13
  refine J_iload_n rfl rfl (show Dc Y_X11_silence 13 (.iload_n 2) 1 14 from ⟨by decide +kernel, rfl⟩) ?_
  refine J_aload_n rfl rfl (show Dc Y_X11_silence 14 (.aload_n 0) 1 15 from ⟨by decide +kernel, rfl⟩) ?_
  refine J_getR (show Dc Y_X11_silence 15 (.getfield 47) 3 18 from ⟨by decide +kernel, rfl⟩) w_f_RX11_47 rfl (fun v1 => ?_)
  refine J_getI (show Dc Y_X11_silence 18 (.getfield 146) 3 21 from ⟨by decide +kernel, rfl⟩) w_f_RX11_146 rfl (fun v2 => ?_)
  refine J_icmp_ge (tg := 43) (show Dc Y_X11_silence 21 (.if_icmp .ge 22) 3 24 from ⟨by decide +kernel, rfl⟩) (by decide) (fun h => ?_) (fun h => ?_)
  · refine J_map (f := Sum.inr) (fun _ h => h) ?_
    refine J_iload_n rfl rfl (show Dc Y_X11_silence 43 (.iload_n 1) 1 44 from ⟨by decide +kernel, rfl⟩) ?_
    exact J_reti (show Dc Y_X11_silence 44 (.ireturn) 1 45 from ⟨by decide +kernel, rfl⟩) rfl (h0 _ _) (by decide) (by decide)
  · refine J_aload_n rfl rfl (show Dc Y_X11_silence 24 (.aload_n 0) 1 25 from ⟨by decide +kernel, rfl⟩) ?_
    refine J_getR (show Dc Y_X11_silence 25 (.getfield 47) 3 28 from ⟨by decide +kernel, rfl⟩) w_f_RX11_47 rfl (fun v3 => ?_)
    refine J_getR (show Dc Y_X11_silence 28 (.getfield 171) 3 31 from ⟨by decide +kernel, rfl⟩) w_f_RX11_171 rfl (fun v4 => ?_)
    refine J_iload_n rfl rfl (show Dc Y_X11_silence 31 (.iload_n 2) 1 32 from ⟨by decide +kernel, rfl⟩) ?_
    refine J_aald (kd := 25) (by decide) (by decide) (show Dc Y_X11_silence 32 (.aaload) 1 33 from ⟨by decide +kernel, rfl⟩) (fun v5 => ?_)
    refine J_iconst (0 : Int32) rfl (show Dc Y_X11_silence 33 (.iconst 0) 1 34 from ⟨by decide +kernel, rfl⟩) ?_
    refine J_putI (show Dc Y_X11_silence 34 (.putfield 191) 3 37 from ⟨by decide +kernel, rfl⟩) w_f_RX11_191 rfl rfl (fun g6 => ?_) (fun h => by cases h)
    refine J_iinc (1 : Int32) [some (.ref x0), some (.int x1), some (.int (x2 + (1 : Int32)))] (show Dc Y_X11_silence 37 (.iinc 2 1) 3 40 from ⟨by decide +kernel, rfl⟩) rfl rfl (by decide) rfl rfl ?_
    refine J_goto (tg := 13) (show Dc Y_X11_silence 40 (.goto (-27)) 3 43 from ⟨by decide +kernel, rfl⟩) (by decide) ?_
    exact J_leaf (fun h => hL13 (x2 + (1 : Int32), g6) h)

theorem j_X11_silence {X : ZX} (N : Nat) (x0 : Nat)   (g : ZS) {K : (Int32 × ZS) → Prop} (h0 : ∀ v g, K (v, g) → xK X (some (.int v)) g) : J Y_X11_silence X 0 0 0 [some (.ref x0), none, none] [] g (f_X11_silence N x0 g) K := by
  unfold f_X11_silence
  refine J_aload_n rfl rfl (show Dc Y_X11_silence 0 (.aload_n 0) 1 1 from ⟨by decide +kernel, rfl⟩) ?_
  refine J_getR (show Dc Y_X11_silence 1 (.getfield 47) 3 4 from ⟨by decide +kernel, rfl⟩) w_f_RX11_47 rfl (fun v1 => ?_)
  refine J_callVi (fun r => r) (fun _ => g) (show Dc Y_X11_silence 4 (.invokevirtual 298) 3 7 from ⟨by decide +kernel, rfl⟩) w_m_RX11_298 w_in_X6_spoken rfl w_se_X6_spoken w_cw_X6_spoken (c_X6_spoken N v1 g) rfl rfl (by decide) (Nat.le_of_ble_eq_true rfl) (by decide) (by decide) (fun v2 => ?_)
  refine J_callSi (fun r => r) (fun _ => g) (show Dc Y_X11_silence 7 (.invokestatic 255) 3 10 from ⟨by decide +kernel, rfl⟩) w_m_RX11_255 w_st_J6_bitCount_0f7a4 w_cw_J6_bitCount_0f7a4 (c_J6_bitCount_0f7a4 v2 g) rfl rfl (by decide) (Nat.le_of_ble_eq_true rfl) (by decide) (by decide) (fun v3 => ?_)
  refine J_istore_n [some (.ref x0), some (.int v3), none] (show Dc Y_X11_silence 10 (.istore_n 1) 1 11 from ⟨by decide +kernel, rfl⟩) rfl (by decide) rfl rfl ?_
  refine J_iconst (0 : Int32) rfl (show Dc Y_X11_silence 11 (.iconst 0) 1 12 from ⟨by decide +kernel, rfl⟩) ?_
  refine J_istore_n [some (.ref x0), some (.int v3), some (.int (0 : Int32))] (show Dc Y_X11_silence 12 (.istore_n 2) 1 13 from ⟨by decide +kernel, rfl⟩) rfl (by decide) rfl rfl ?_
  exact J_loop (X := X) (K := K) (uc := fun _ => 0) (us := fun _ => 0) (lf := fun s => [some (.ref x0), some (.int v3), some (.int s.1)]) (gf := fun s => s.2) (fun s => j_X11_silence_13 (K := zKl Y_X11_silence X 13 (fun _ => 0) (fun _ => 0) (fun s => [some (.ref x0), some (.int v3), some (.int s.1)]) (fun s => s.2) K) N x0 v3 s.1 s.2 h0 (fun s h => h)) N ((0 : Int32), g)

theorem c_X11_silence {l : Launch} {D : ZD} {B0 : Nat} (N : Nat) (x0 : Nat) (g : ZS) : ∀ r, f_X11_silence N x0 g = some r → zCt l D B0 yX11_silence Y_X11_silence [.ref x0] g (some (.int r.1)) r.2 :=
  zCt_ofF (vo := fun r => some (.int r.1)) (so := fun r => r.2) (by decide +kernel) rfl (fun h => by cases h) rfl (Nat.le_of_ble_eq_true rfl) (fun X => j_X11_silence N x0 g (fun _ _ h => h))

theorem j_X12_speakers_33 {X : ZX} (N : Nat) (x0 : Nat) (x2 : Int32) (s0 : Int32) (s1 : Int32)  (g : ZS) {K : ((Int32 × Int32) ⊕ Int32) → Prop} (h0 : ∀ v, K (.inr v) → xK X (some (.int v)) g) (hL4 : ∀ s, K (.inl s) → zG Y_X12_speakers X 0 0 4 [some (.ref x0), some (.int s.1), some (.int s.2)] [] g) : J Y_X12_speakers X 0 0 33 [some (.ref x0), none, some (.int x2)] [.int s1, .int s0] g (f_X12_speakers_33 N x0 x2 s0 s1 g) K := by
  unfold f_X12_speakers_33
  refine J_ior (show Dc Y_X12_speakers 33 (.ior) 1 34 from ⟨by decide +kernel, rfl⟩) ?_
  refine J_istore_n [some (.ref x0), some (.int (s0 ||| s1)), some (.int x2)] (show Dc Y_X12_speakers 34 (.istore_n 1) 1 35 from ⟨by decide +kernel, rfl⟩) rfl (by decide) rfl rfl ?_
  refine J_iinc (1 : Int32) [some (.ref x0), some (.int (s0 ||| s1)), some (.int (x2 + (1 : Int32)))] (show Dc Y_X12_speakers 35 (.iinc 2 1) 3 38 from ⟨by decide +kernel, rfl⟩) rfl rfl (by decide) rfl rfl ?_
  refine J_goto (tg := 4) (show Dc Y_X12_speakers 38 (.goto (-34)) 3 41 from ⟨by decide +kernel, rfl⟩) (by decide) ?_
  exact J_leaf (fun h => hL4 (s0 ||| s1, x2 + (1 : Int32)) h)

theorem j_X12_speakers_4 {X : ZX} (N : Nat) (x0 : Nat) (x1 : Int32) (x2 : Int32)   (g : ZS) {K : ((Int32 × Int32) ⊕ Int32) → Prop} (h0 : ∀ v, K (.inr v) → xK X (some (.int v)) g) (hL4 : ∀ s, K (.inl s) → zG Y_X12_speakers X 0 0 4 [some (.ref x0), some (.int s.1), some (.int s.2)] [] g) : J Y_X12_speakers X 0 0 4 [some (.ref x0), some (.int x1), some (.int x2)] [] g (f_X12_speakers_4 N x0 x1 x2 g) K := by
  unfold f_X12_speakers_4
  refine J_iload_n rfl rfl (show Dc Y_X12_speakers 4 (.iload_n 2) 1 5 from ⟨by decide +kernel, rfl⟩) ?_
  refine J_aload_n rfl rfl (show Dc Y_X12_speakers 5 (.aload_n 0) 1 6 from ⟨by decide +kernel, rfl⟩) ?_
  refine J_getI (show Dc Y_X12_speakers 6 (.getfield 116) 3 9 from ⟨by decide +kernel, rfl⟩) w_f_RX12_116 rfl (fun v1 => ?_)
  refine J_icmp_ge (tg := 41) (show Dc Y_X12_speakers 9 (.if_icmp .ge 32) 3 12 from ⟨by decide +kernel, rfl⟩) (by decide) (fun h => ?_) (fun h => ?_)
  · refine J_map (f := Sum.inr) (fun _ h => h) ?_
    refine J_iload_n rfl rfl (show Dc Y_X12_speakers 41 (.iload_n 1) 1 42 from ⟨by decide +kernel, rfl⟩) ?_
    exact J_reti (show Dc Y_X12_speakers 42 (.ireturn) 1 43 from ⟨by decide +kernel, rfl⟩) rfl (h0 _) (by decide) (by decide)
  · refine J_iload_n rfl rfl (show Dc Y_X12_speakers 12 (.iload_n 1) 1 13 from ⟨by decide +kernel, rfl⟩) ?_
    refine J_aload_n rfl rfl (show Dc Y_X12_speakers 13 (.aload_n 0) 1 14 from ⟨by decide +kernel, rfl⟩) ?_
    refine J_getR (show Dc Y_X12_speakers 14 (.getfield 9) 3 17 from ⟨by decide +kernel, rfl⟩) w_f_RX12_9 rfl (fun v2 => ?_)
    refine J_iload_n rfl rfl (show Dc Y_X12_speakers 17 (.iload_n 2) 1 18 from ⟨by decide +kernel, rfl⟩) ?_
    refine J_iconst (3 : Int32) rfl (show Dc Y_X12_speakers 18 (.iconst 3) 1 19 from ⟨by decide +kernel, rfl⟩) ?_
    refine J_callSi (fun r => r) (fun _ => g) (show Dc Y_X12_speakers 19 (.invokestatic 179) 3 22 from ⟨by decide +kernel, rfl⟩) w_m_RX12_179 w_st_X12_of w_cw_X12_of (c_X12_of x2 (3 : Int32) g) rfl rfl (by decide) (Nat.le_of_ble_eq_true rfl) (by decide) (by decide) (fun v3 => ?_)
    refine J_iald (show Dc Y_X12_speakers 22 (.iaload) 1 23 from ⟨by decide +kernel, rfl⟩) (fun v4 => ?_)
    refine J_if_le (tg := 32) (show Dc Y_X12_speakers 23 (.ifCond .le 9) 3 26 from ⟨by decide +kernel, rfl⟩) (by decide) (fun h => ?_) (fun h => ?_)
    · refine J_iconst (0 : Int32) rfl (show Dc Y_X12_speakers 32 (.iconst 0) 1 33 from ⟨by decide +kernel, rfl⟩) ?_
      refine J_mask [true, false, true] ?_
      exact j_X12_speakers_33 N x0 x2 x1 (0 : Int32) g h0 hL4
    · refine J_iconst (1 : Int32) rfl (show Dc Y_X12_speakers 26 (.iconst 1) 1 27 from ⟨by decide +kernel, rfl⟩) ?_
      refine J_iload_n rfl rfl (show Dc Y_X12_speakers 27 (.iload_n 2) 1 28 from ⟨by decide +kernel, rfl⟩) ?_
      refine J_ishl (show Dc Y_X12_speakers 28 (.ishl) 1 29 from ⟨by decide +kernel, rfl⟩) ?_
      refine J_goto (tg := 33) (show Dc Y_X12_speakers 29 (.goto 4) 3 32 from ⟨by decide +kernel, rfl⟩) (by decide) ?_
      refine J_mask [true, false, true] ?_
      exact j_X12_speakers_33 N x0 x2 x1 ((1 : Int32) <<< (x2 &&& 31)) g h0 hL4

theorem j_X12_speakers {X : ZX} (N : Nat) (x0 : Nat)   (g : ZS) {K : Int32 → Prop} (h0 : ∀ v, K v → xK X (some (.int v)) g) : J Y_X12_speakers X 0 0 0 [some (.ref x0), none, none] [] g (f_X12_speakers N x0 g) K := by
  unfold f_X12_speakers
  refine J_iconst (0 : Int32) rfl (show Dc Y_X12_speakers 0 (.iconst 0) 1 1 from ⟨by decide +kernel, rfl⟩) ?_
  refine J_istore_n [some (.ref x0), some (.int (0 : Int32)), none] (show Dc Y_X12_speakers 1 (.istore_n 1) 1 2 from ⟨by decide +kernel, rfl⟩) rfl (by decide) rfl rfl ?_
  refine J_iconst (0 : Int32) rfl (show Dc Y_X12_speakers 2 (.iconst 0) 1 3 from ⟨by decide +kernel, rfl⟩) ?_
  refine J_istore_n [some (.ref x0), some (.int (0 : Int32)), some (.int (0 : Int32))] (show Dc Y_X12_speakers 3 (.istore_n 2) 1 4 from ⟨by decide +kernel, rfl⟩) rfl (by decide) rfl rfl ?_
  exact J_loop (X := X) (K := K) (uc := fun _ => 0) (us := fun _ => 0) (lf := fun s => [some (.ref x0), some (.int s.1), some (.int s.2)]) (gf := fun s => g) (fun s => j_X12_speakers_4 (K := zKl Y_X12_speakers X 4 (fun _ => 0) (fun _ => 0) (fun s => [some (.ref x0), some (.int s.1), some (.int s.2)]) (fun s => g) K) N x0 s.1 s.2 g h0 (fun s h => h)) N ((0 : Int32), (0 : Int32))

theorem c_X12_speakers {l : Launch} {D : ZD} {B0 : Nat} (N : Nat) (x0 : Nat) (g : ZS) : ∀ r, f_X12_speakers N x0 g = some r → zCt l D B0 yX12_speakers Y_X12_speakers [.ref x0] g (some (.int r)) g :=
  zCt_ofF (vo := fun r => some (.int r)) (so := fun _ => g) (by decide +kernel) rfl (fun h => by cases h) rfl (Nat.le_of_ble_eq_true rfl) (fun X => j_X12_speakers N x0 g (fun _ h => h))

theorem j_X12_goHush_2 {X : ZX} (N : Nat) (x0 : Nat) (x1 : Int32)   (g : ZS) {K : ((Int32 × ZS) ⊕ ZS) → Prop} (h0 : ∀ g, K (.inr g) → xK X none g) (hL2 : ∀ s, K (.inl s) → zG Y_X12_goHush X 0 0 2 [some (.ref x0), some (.int s.1)] [] s.2) : J Y_X12_goHush X 0 0 2 [some (.ref x0), some (.int x1)] [] g (f_X12_goHush_2 N x0 x1 g) K := by
  unfold f_X12_goHush_2
  refine J_iload_n rfl rfl (show Dc Y_X12_goHush 2 (.iload_n 1) 1 3 from ⟨by decide +kernel, rfl⟩) ?_
  refine J_aload_n rfl rfl (show Dc Y_X12_goHush 3 (.aload_n 0) 1 4 from ⟨by decide +kernel, rfl⟩) ?_
  refine J_getI (show Dc Y_X12_goHush 4 (.getfield 116) 3 7 from ⟨by decide +kernel, rfl⟩) w_f_RX12_116 rfl (fun v1 => ?_)
  refine J_icmp_ge (tg := 27) (show Dc Y_X12_goHush 7 (.if_icmp .ge 20) 3 10 from ⟨by decide +kernel, rfl⟩) (by decide) (fun h => ?_) (fun h => ?_)
  · refine J_map (f := Sum.inr) (fun _ h => h) ?_
    exact J_ret0 (show Dc Y_X12_goHush 27 (.return_) 1 28 from ⟨by decide +kernel, rfl⟩) rfl (h0 _) (by decide) (by decide)
  · refine J_aload_n rfl rfl (show Dc Y_X12_goHush 10 (.aload_n 0) 1 11 from ⟨by decide +kernel, rfl⟩) ?_
    refine J_getR (show Dc Y_X12_goHush 11 (.getfield 9) 3 14 from ⟨by decide +kernel, rfl⟩) w_f_RX12_9 rfl (fun v2 => ?_)
    refine J_iload_n rfl rfl (show Dc Y_X12_goHush 14 (.iload_n 1) 1 15 from ⟨by decide +kernel, rfl⟩) ?_
    refine J_iconst (3 : Int32) rfl (show Dc Y_X12_goHush 15 (.iconst 3) 1 16 from ⟨by decide +kernel, rfl⟩) ?_
    refine J_callSi (fun r => r) (fun _ => g) (show Dc Y_X12_goHush 16 (.invokestatic 179) 3 19 from ⟨by decide +kernel, rfl⟩) w_m_RX12_179 w_st_X12_of w_cw_X12_of (c_X12_of x1 (3 : Int32) g) rfl rfl (by decide) (Nat.le_of_ble_eq_true rfl) (by decide) (by decide) (fun v3 => ?_)
    refine J_iconst (0 : Int32) rfl (show Dc Y_X12_goHush 19 (.iconst 0) 1 20 from ⟨by decide +kernel, rfl⟩) ?_
    refine J_iast (show Dc Y_X12_goHush 20 (.iastore) 1 21 from ⟨by decide +kernel, rfl⟩) (fun g4 => ?_)
    refine J_iinc (1 : Int32) [some (.ref x0), some (.int (x1 + (1 : Int32)))] (show Dc Y_X12_goHush 21 (.iinc 1 1) 3 24 from ⟨by decide +kernel, rfl⟩) rfl rfl (by decide) rfl rfl ?_
    refine J_goto (tg := 2) (show Dc Y_X12_goHush 24 (.goto (-22)) 3 27 from ⟨by decide +kernel, rfl⟩) (by decide) ?_
    exact J_leaf (fun h => hL2 (x1 + (1 : Int32), g4) h)

theorem j_X12_goHush {X : ZX} (N : Nat) (x0 : Nat)   (g : ZS) {K : ZS → Prop} (h0 : ∀ g, K g → xK X none g) : J Y_X12_goHush X 0 0 0 [some (.ref x0), none] [] g (f_X12_goHush N x0 g) K := by
  unfold f_X12_goHush
  refine J_iconst (0 : Int32) rfl (show Dc Y_X12_goHush 0 (.iconst 0) 1 1 from ⟨by decide +kernel, rfl⟩) ?_
  refine J_istore_n [some (.ref x0), some (.int (0 : Int32))] (show Dc Y_X12_goHush 1 (.istore_n 1) 1 2 from ⟨by decide +kernel, rfl⟩) rfl (by decide) rfl rfl ?_
  exact J_loop (X := X) (K := K) (uc := fun _ => 0) (us := fun _ => 0) (lf := fun s => [some (.ref x0), some (.int s.1)]) (gf := fun s => s.2) (fun s => j_X12_goHush_2 (K := zKl Y_X12_goHush X 2 (fun _ => 0) (fun _ => 0) (fun s => [some (.ref x0), some (.int s.1)]) (fun s => s.2) K) N x0 s.1 s.2 h0 (fun s h => h)) N ((0 : Int32), g)

theorem c_X12_goHush {l : Launch} {D : ZD} {B0 : Nat} (N : Nat) (x0 : Nat) (g : ZS) : ∀ r, f_X12_goHush N x0 g = some r → zCt l D B0 yX12_goHush Y_X12_goHush [.ref x0] g none r :=
  zCt_ofF (vo := fun _ => none) (so := fun r => r) (by decide +kernel) rfl (fun h => by cases h) rfl (Nat.le_of_ble_eq_true rfl) (fun X => j_X12_goHush N x0 g (fun _ h => h))

theorem j_X12_hush_25 {X : ZX} (N : Nat) (x0 : Nat) (x1 : Int32)   (g : ZS) {K : (Int32 × ZS) → Prop} (h0 : ∀ v g, K (v, g) → xK X (some (.int v)) g) : J Y_X12_hush X 0 0 25 [some (.ref x0), some (.int x1)] [] g (f_X12_hush_25 N x0 x1 g) K := by
  unfold f_X12_hush_25
  refine J_aload_n rfl rfl (show Dc Y_X12_hush 25 (.aload_n 0) 1 26 from ⟨by decide +kernel, rfl⟩) ?_
  refine J_callVv (fun r => r) (show Dc Y_X12_hush 26 (.invokevirtual 304) 3 29 from ⟨by decide +kernel, rfl⟩) w_m_RX12_304 w_in_X12_goHush rfl w_se_X12_goHush w_cw_X12_goHush (c_X12_goHush N x0 g) rfl rfl (by decide) (Nat.le_of_ble_eq_true rfl) (by decide) (by decide) (fun g1 => ?_)
  refine J_iload_n rfl rfl (show Dc Y_X12_hush 29 (.iload_n 1) 1 30 from ⟨by decide +kernel, rfl⟩) ?_
  exact J_reti (show Dc Y_X12_hush 30 (.ireturn) 1 31 from ⟨by decide +kernel, rfl⟩) rfl (h0 _ _) (by decide) (by decide)

theorem j_X12_hush {X : ZX} (N : Nat) (x0 : Nat)   (g : ZS) {K : (Int32 × ZS) → Prop} (h0 : ∀ v g, K (v, g) → xK X (some (.int v)) g) : J Y_X12_hush X 0 0 0 [some (.ref x0), none] [] g (f_X12_hush N x0 g) K := by
  unfold f_X12_hush
  refine J_aload_n rfl rfl (show Dc Y_X12_hush 0 (.aload_n 0) 1 1 from ⟨by decide +kernel, rfl⟩) ?_
  refine J_iconst (0 : Int32) rfl (show Dc Y_X12_hush 1 (.iconst 0) 1 2 from ⟨by decide +kernel, rfl⟩) ?_
  refine J_putI (show Dc Y_X12_hush 2 (.putfield 109) 3 5 from ⟨by decide +kernel, rfl⟩) w_f_RX12_109 rfl rfl (fun g1 => ?_) (fun h => by cases h)
  refine J_aload_n rfl rfl (show Dc Y_X12_hush 5 (.aload_n 0) 1 6 from ⟨by decide +kernel, rfl⟩) ?_
  refine J_callVi (fun r => r) (fun _ => g1) (show Dc Y_X12_hush 6 (.invokevirtual 301) 3 9 from ⟨by decide +kernel, rfl⟩) w_m_RX12_301 w_in_X12_speakers rfl w_se_X12_speakers w_cw_X12_speakers (c_X12_speakers N x0 g1) rfl rfl (by decide) (Nat.le_of_ble_eq_true rfl) (by decide) (by decide) (fun v2 => ?_)
  refine J_callSi (fun r => r) (fun _ => g1) (show Dc Y_X12_hush 9 (.invokestatic 269) 3 12 from ⟨by decide +kernel, rfl⟩) w_m_RX12_269 w_st_J6_bitCount_0f7a4 w_cw_J6_bitCount_0f7a4 (c_J6_bitCount_0f7a4 v2 g1) rfl rfl (by decide) (Nat.le_of_ble_eq_true rfl) (by decide) (by decide) (fun v3 => ?_)
  refine J_istore_n [some (.ref x0), some (.int v3)] (show Dc Y_X12_hush 12 (.istore_n 1) 1 13 from ⟨by decide +kernel, rfl⟩) rfl (by decide) rfl rfl ?_
  refine J_iload_n rfl rfl (show Dc Y_X12_hush 13 (.iload_n 1) 1 14 from ⟨by decide +kernel, rfl⟩) ?_
  refine J_if_le (tg := 25) (show Dc Y_X12_hush 14 (.ifCond .le 11) 3 17 from ⟨by decide +kernel, rfl⟩) (by decide) (fun h => ?_) (fun h => ?_)
  · exact j_X12_hush_25 N x0 v3 g1 h0
  · refine J_aload_n rfl rfl (show Dc Y_X12_hush 17 (.aload_n 0) 1 18 from ⟨by decide +kernel, rfl⟩) ?_
    refine J_aload_n rfl rfl (show Dc Y_X12_hush 18 (.aload_n 0) 1 19 from ⟨by decide +kernel, rfl⟩) ?_
    refine J_getR (show Dc Y_X12_hush 19 (.getfield 9) 3 22 from ⟨by decide +kernel, rfl⟩) w_f_RX12_9 rfl (fun v4 => ?_)
    refine J_callVv (fun r => r) (show Dc Y_X12_hush 22 (.invokevirtual 261) 3 25 from ⟨by decide +kernel, rfl⟩) w_m_RX12_261 w_in_X12_remember rfl w_se_X12_remember w_cw_X12_remember (c_X12_remember N x0 v4 g1) rfl rfl (by decide) (Nat.le_of_ble_eq_true rfl) (by decide) (by decide) (fun g5 => ?_)
    exact j_X12_hush_25 N x0 v3 g5 h0

theorem c_X12_hush {l : Launch} {D : ZD} {B0 : Nat} (N : Nat) (x0 : Nat) (g : ZS) : ∀ r, f_X12_hush N x0 g = some r → zCt l D B0 yX12_hush Y_X12_hush [.ref x0] g (some (.int r.1)) r.2 :=
  zCt_ofF (vo := fun r => some (.int r.1)) (so := fun r => r.2) (by decide +kernel) rfl (fun h => by cases h) rfl (Nat.le_of_ble_eq_true rfl) (fun X => j_X12_hush N x0 g (fun _ _ h => h))

theorem j_X11_signsBehind_62 {X : ZX}    (g : ZS) {K : Int32 → Prop} (h0 : ∀ v, K v → xK X (some (.int v)) g) : J Y_X11_signsBehind X 0 0 62 [none] [] g (f_X11_signsBehind_62) K := by
  unfold f_X11_signsBehind_62
  refine J_iconst (1 : Int32) rfl (show Dc Y_X11_signsBehind 62 (.iconst 1) 1 63 from ⟨by decide +kernel, rfl⟩) ?_
  exact J_reti (show Dc Y_X11_signsBehind 63 (.ireturn) 1 64 from ⟨by decide +kernel, rfl⟩) rfl (h0 _) (by decide) (by decide)

theorem j_X11_signsBehind_64 {X : ZX}    (g : ZS) {K : Int32 → Prop} (h0 : ∀ v, K v → xK X (some (.int v)) g) : J Y_X11_signsBehind X 0 0 64 [none] [] g (f_X11_signsBehind_64) K := by
  unfold f_X11_signsBehind_64
  refine J_iconst (2 : Int32) rfl (show Dc Y_X11_signsBehind 64 (.iconst 2) 1 65 from ⟨by decide +kernel, rfl⟩) ?_
  exact J_reti (show Dc Y_X11_signsBehind 65 (.ireturn) 1 66 from ⟨by decide +kernel, rfl⟩) rfl (h0 _) (by decide) (by decide)

theorem j_X11_signsBehind {X : ZX} (x0 : Int32)   (g : ZS) {K : Int32 → Prop} (h0 : ∀ v, K v → xK X (some (.int v)) g) : J Y_X11_signsBehind X 0 0 0 [some (.int x0)] [] g (f_X11_signsBehind x0) K := by
  unfold f_X11_signsBehind
  refine J_iload_n rfl rfl (show Dc Y_X11_signsBehind 0 (.iload_n 0) 1 1 from ⟨by decide +kernel, rfl⟩) ?_
  refine J_lsw (tgd := 66) [((100 : Int32), 62, _), ((107 : Int32), 62, _), ((109 : Int32), 64, _), ((115 : Int32), 62, _), ((116 : Int32), 64, _), ((120 : Int32), 60, _)] (show Dc Y_X11_signsBehind 1 (.lookupswitch 65 #[(100, 61), (107, 61), (109, 63), (115, 61), (116, 63), (120, 59)]) 59 60 from ⟨by decide +kernel, rfl⟩) (by decide) (by simp only [List.map_cons, List.map_nil]; decide +kernel) (by decide) ?_ ?_
  · refine List.forall_mem_cons.mpr ⟨?_, List.forall_mem_cons.mpr ⟨?_, List.forall_mem_cons.mpr ⟨?_, List.forall_mem_cons.mpr ⟨?_, List.forall_mem_cons.mpr ⟨?_, List.forall_mem_cons.mpr ⟨?_, fun _ h => absurd h List.not_mem_nil⟩⟩⟩⟩⟩⟩
    · refine J_mask [false] ?_
      exact j_X11_signsBehind_62 g h0
    · refine J_mask [false] ?_
      exact j_X11_signsBehind_62 g h0
    · refine J_mask [false] ?_
      exact j_X11_signsBehind_64 g h0
    · refine J_mask [false] ?_
      exact j_X11_signsBehind_62 g h0
    · refine J_mask [false] ?_
      exact j_X11_signsBehind_64 g h0
    · refine J_iconst (0 : Int32) rfl (show Dc Y_X11_signsBehind 60 (.iconst 0) 1 61 from ⟨by decide +kernel, rfl⟩) ?_
      exact J_reti (show Dc Y_X11_signsBehind 61 (.ireturn) 1 62 from ⟨by decide +kernel, rfl⟩) rfl (h0 _) (by decide) (by decide)
  · refine J_iconst (-1 : Int32) rfl (show Dc Y_X11_signsBehind 66 (.iconst (-1)) 1 67 from ⟨by decide +kernel, rfl⟩) ?_
    exact J_reti (show Dc Y_X11_signsBehind 67 (.ireturn) 1 68 from ⟨by decide +kernel, rfl⟩) rfl (h0 _) (by decide) (by decide)

theorem c_X11_signsBehind {l : Launch} {D : ZD} {B0 : Nat} (x0 : Int32) (g : ZS) : ∀ r, f_X11_signsBehind x0 = some r → zCt l D B0 yX11_signsBehind Y_X11_signsBehind [.int x0] g (some (.int r)) g :=
  zCt_ofF (vo := fun r => some (.int r)) (so := fun _ => g) (by decide +kernel) rfl (fun h => by cases h) rfl (Nat.le_of_ble_eq_true rfl) (fun X => j_X11_signsBehind x0 g (fun _ h => h))

theorem j_X11_badInTrial_102 {X : ZX} (N : Nat) (x0 : Nat) (x1 : Int32) (x2 : Int32) (x3 : Int32)   (g : ZS) {K : ((Int32 × Int32 × Int32) ⊕ Int32) → Prop} (h0 : ∀ v, K (.inr v) → xK X (some (.int v)) g) (hL7 : ∀ s, K (.inl s) → zG Y_X11_badInTrial X 0 0 7 [some (.ref x0), some (.int s.1), some (.int s.2.1), some (.int s.2.2), none] [] g) : J Y_X11_badInTrial X 0 0 102 [some (.ref x0), some (.int x1), some (.int x2), some (.int x3), none] [] g (f_X11_badInTrial_102 N x0 x1 x2 x3 g) K := by
  unfold f_X11_badInTrial_102
  refine J_iinc (1 : Int32) [some (.ref x0), some (.int x1), some (.int x2), some (.int (x3 + (1 : Int32))), none] (show Dc Y_X11_badInTrial 102 (.iinc 3 1) 3 105 from ⟨by decide +kernel, rfl⟩) rfl rfl (by decide) rfl rfl ?_
  refine J_goto (tg := 7) (show Dc Y_X11_badInTrial 105 (.goto (-98)) 3 108 from ⟨by decide +kernel, rfl⟩) (by decide) ?_
  exact J_leaf (fun h => hL7 (x1, x2, x3 + (1 : Int32)) h)

theorem j_X11_badInTrial_93 {X : ZX} (N : Nat) (x0 : Nat) (x1 : Int32) (x2 : Int32) (x3 : Int32) (s0 : Int32)  (g : ZS) {K : ((Int32 × Int32 × Int32) ⊕ Int32) → Prop} (h0 : ∀ v, K (.inr v) → xK X (some (.int v)) g) (hL7 : ∀ s, K (.inl s) → zG Y_X11_badInTrial X 0 0 7 [some (.ref x0), some (.int s.1), some (.int s.2.1), some (.int s.2.2), none] [] g) : J Y_X11_badInTrial X 0 0 93 [some (.ref x0), some (.int x1), some (.int x2), some (.int x3), none] [.int s0] g (f_X11_badInTrial_93 N x0 x1 x2 x3 s0 g) K := by
  unfold f_X11_badInTrial_93
  refine J_iconst (-1 : Int32) rfl (show Dc Y_X11_badInTrial 93 (.iconst (-1)) 1 94 from ⟨by decide +kernel, rfl⟩) ?_
  refine J_icmp_ne (tg := 99) (show Dc Y_X11_badInTrial 94 (.if_icmp .ne 5) 3 97 from ⟨by decide +kernel, rfl⟩) (by decide) (fun h => ?_) (fun h => ?_)
  · refine J_iinc (-1 : Int32) [some (.ref x0), some (.int x1), some (.int (x2 + (-1 : Int32))), some (.int x3), none] (show Dc Y_X11_badInTrial 99 (.iinc 2 (-1)) 3 102 from ⟨by decide +kernel, rfl⟩) rfl rfl (by decide) rfl rfl ?_
    exact j_X11_badInTrial_102 N x0 x1 (x2 + (-1 : Int32)) x3 g h0 hL7
  · refine J_map (f := Sum.inr) (fun _ h => h) ?_
    refine J_iload_n rfl rfl (show Dc Y_X11_badInTrial 97 (.iload_n 3) 1 98 from ⟨by decide +kernel, rfl⟩) ?_
    exact J_reti (show Dc Y_X11_badInTrial 98 (.ireturn) 1 99 from ⟨by decide +kernel, rfl⟩) rfl (h0 _) (by decide) (by decide)

theorem j_X11_badInTrial_67 {X : ZX} (N : Nat) (x0 : Nat) (x1 : Int32) (x2 : Int32) (x3 : Int32) (s0 : Int32)  (g : ZS) {K : ((Int32 × Int32 × Int32) ⊕ Int32) → Prop} (h0 : ∀ v, K (.inr v) → xK X (some (.int v)) g) (hL7 : ∀ s, K (.inl s) → zG Y_X11_badInTrial X 0 0 7 [some (.ref x0), some (.int s.1), some (.int s.2.1), some (.int s.2.2), none] [] g) : J Y_X11_badInTrial X 0 0 67 [some (.ref x0), some (.int x1), some (.int x2), some (.int x3), none] [.int s0] g (f_X11_badInTrial_67 N x0 x1 x2 x3 s0 g) K := by
  unfold f_X11_badInTrial_67
  refine J_istore [some (.ref x0), some (.int x1), some (.int x2), some (.int x3), some (.int s0)] (show Dc Y_X11_badInTrial 67 (.istore 4) 2 69 from ⟨by decide +kernel, rfl⟩) (by decide) rfl rfl ?_
  refine J_iload rfl (show Dc Y_X11_badInTrial 69 (.iload 4) 2 71 from ⟨by decide +kernel, rfl⟩) ?_
  refine J_if_eq (tg := 85) (show Dc Y_X11_badInTrial 71 (.ifCond .eq 14) 3 74 from ⟨by decide +kernel, rfl⟩) (by decide) (fun h => ?_) (fun h => ?_)
  · refine J_aload_n rfl rfl (show Dc Y_X11_badInTrial 85 (.aload_n 0) 1 86 from ⟨by decide +kernel, rfl⟩) ?_
    refine J_getR (show Dc Y_X11_badInTrial 86 (.getfield 10) 3 89 from ⟨by decide +kernel, rfl⟩) w_f_RX11_10 rfl (fun v1 => ?_)
    refine J_iload_n rfl rfl (show Dc Y_X11_badInTrial 89 (.iload_n 3) 1 90 from ⟨by decide +kernel, rfl⟩) ?_
    refine J_callVi (fun r => r) (fun _ => g) (show Dc Y_X11_badInTrial 90 (.invokevirtual 135) 3 93 from ⟨by decide +kernel, rfl⟩) w_m_RX11_135 w_in_X8_digitAt rfl w_se_X8_digitAt w_cw_X8_digitAt (c_X8_digitAt v1 x3 g) rfl rfl (by decide) (Nat.le_of_ble_eq_true rfl) (by decide) (by decide) (fun v2 => ?_)
    refine J_mask [true, true, true, true, false] ?_
    exact j_X11_badInTrial_93 N x0 x1 x2 x3 v2 g h0 hL7
  · refine J_aload_n rfl rfl (show Dc Y_X11_badInTrial 74 (.aload_n 0) 1 75 from ⟨by decide +kernel, rfl⟩) ?_
    refine J_getR (show Dc Y_X11_badInTrial 75 (.getfield 10) 3 78 from ⟨by decide +kernel, rfl⟩) w_f_RX11_10 rfl (fun v3 => ?_)
    refine J_iload_n rfl rfl (show Dc Y_X11_badInTrial 78 (.iload_n 3) 1 79 from ⟨by decide +kernel, rfl⟩) ?_
    refine J_callVi (fun r => r) (fun _ => g) (show Dc Y_X11_badInTrial 79 (.invokevirtual 311) 3 82 from ⟨by decide +kernel, rfl⟩) w_m_RX11_311 w_in_X8_wordAt rfl w_se_X8_wordAt w_cw_X8_wordAt (c_X8_wordAt v3 x3 g) rfl rfl (by decide) (Nat.le_of_ble_eq_true rfl) (by decide) (by decide) (fun v4 => ?_)
    refine J_goto (tg := 93) (show Dc Y_X11_badInTrial 82 (.goto 11) 3 85 from ⟨by decide +kernel, rfl⟩) (by decide) ?_
    refine J_mask [true, true, true, true, false] ?_
    exact j_X11_badInTrial_93 N x0 x1 x2 x3 v4 g h0 hL7

theorem j_X11_badInTrial_66 {X : ZX} (N : Nat) (x0 : Nat) (x1 : Int32) (x2 : Int32) (x3 : Int32)   (g : ZS) {K : ((Int32 × Int32 × Int32) ⊕ Int32) → Prop} (h0 : ∀ v, K (.inr v) → xK X (some (.int v)) g) (hL7 : ∀ s, K (.inl s) → zG Y_X11_badInTrial X 0 0 7 [some (.ref x0), some (.int s.1), some (.int s.2.1), some (.int s.2.2), none] [] g) : J Y_X11_badInTrial X 0 0 66 [some (.ref x0), some (.int x1), some (.int x2), some (.int x3), none] [] g (f_X11_badInTrial_66 N x0 x1 x2 x3 g) K := by
  unfold f_X11_badInTrial_66
  refine J_iconst (0 : Int32) rfl (show Dc Y_X11_badInTrial 66 (.iconst 0) 1 67 from ⟨by decide +kernel, rfl⟩) ?_
  exact j_X11_badInTrial_67 N x0 x1 x2 x3 (0 : Int32) g h0 hL7

theorem j_X11_badInTrial_123 {X : ZX} (N : Nat)  (s0 : Int32)  (g : ZS) {K : Int32 → Prop} (h0 : ∀ v, K v → xK X (some (.int v)) g) : J Y_X11_badInTrial X 0 0 123 [none, none, none, none, none] [.int s0] g (f_X11_badInTrial_123 N s0 g) K := by
  unfold f_X11_badInTrial_123
  exact J_reti (show Dc Y_X11_badInTrial 123 (.ireturn) 1 124 from ⟨by decide +kernel, rfl⟩) rfl (h0 _) (by decide) (by decide)

theorem j_X11_badInTrial_7 {X : ZX} (N : Nat) (x0 : Nat) (x1 : Int32) (x2 : Int32) (x3 : Int32)   (g : ZS) {K : ((Int32 × Int32 × Int32) ⊕ Int32) → Prop} (h0 : ∀ v, K (.inr v) → xK X (some (.int v)) g) (hL7 : ∀ s, K (.inl s) → zG Y_X11_badInTrial X 0 0 7 [some (.ref x0), some (.int s.1), some (.int s.2.1), some (.int s.2.2), none] [] g) : J Y_X11_badInTrial X 0 0 7 [some (.ref x0), some (.int x1), some (.int x2), some (.int x3), none] [] g (f_X11_badInTrial_7 N x0 x1 x2 x3 g) K := by
  unfold f_X11_badInTrial_7
  refine J_iload_n rfl rfl (show Dc Y_X11_badInTrial 7 (.iload_n 3) 1 8 from ⟨by decide +kernel, rfl⟩) ?_
  refine J_aload_n rfl rfl (show Dc Y_X11_badInTrial 8 (.aload_n 0) 1 9 from ⟨by decide +kernel, rfl⟩) ?_
  refine J_getR (show Dc Y_X11_badInTrial 9 (.getfield 10) 3 12 from ⟨by decide +kernel, rfl⟩) w_f_RX11_10 rfl (fun v1 => ?_)
  refine J_getI (show Dc Y_X11_badInTrial 12 (.getfield 110) 3 15 from ⟨by decide +kernel, rfl⟩) w_f_RX11_110 rfl (fun v2 => ?_)
  refine J_icmp_ge (tg := 108) (show Dc Y_X11_badInTrial 15 (.if_icmp .ge 93) 3 18 from ⟨by decide +kernel, rfl⟩) (by decide) (fun h => ?_) (fun h => ?_)
  · refine J_map (f := Sum.inr) (fun _ h => h) ?_
    refine J_iload_n rfl rfl (show Dc Y_X11_badInTrial 108 (.iload_n 2) 1 109 from ⟨by decide +kernel, rfl⟩) ?_
    refine J_if_ne (tg := 116) (show Dc Y_X11_badInTrial 109 (.ifCond .ne 7) 3 112 from ⟨by decide +kernel, rfl⟩) (by decide) (fun h => ?_) (fun h => ?_)
    · refine J_aload_n rfl rfl (show Dc Y_X11_badInTrial 116 (.aload_n 0) 1 117 from ⟨by decide +kernel, rfl⟩) ?_
      refine J_getR (show Dc Y_X11_badInTrial 117 (.getfield 10) 3 120 from ⟨by decide +kernel, rfl⟩) w_f_RX11_10 rfl (fun v3 => ?_)
      refine J_getI (show Dc Y_X11_badInTrial 120 (.getfield 110) 3 123 from ⟨by decide +kernel, rfl⟩) w_f_RX11_110 rfl (fun v4 => ?_)
      refine J_mask [false, false, false, false, false] ?_
      exact j_X11_badInTrial_123 (K := fun o => K (.inr o)) N v4 g h0
    · refine J_iconst (-1 : Int32) rfl (show Dc Y_X11_badInTrial 112 (.iconst (-1)) 1 113 from ⟨by decide +kernel, rfl⟩) ?_
      refine J_goto (tg := 123) (show Dc Y_X11_badInTrial 113 (.goto 10) 3 116 from ⟨by decide +kernel, rfl⟩) (by decide) ?_
      refine J_mask [false, false, false, false, false] ?_
      exact j_X11_badInTrial_123 (K := fun o => K (.inr o)) N (-1 : Int32) g h0
  · refine J_iload_n rfl rfl (show Dc Y_X11_badInTrial 18 (.iload_n 3) 1 19 from ⟨by decide +kernel, rfl⟩) ?_
    refine J_bipush (60 : Int32) rfl (show Dc Y_X11_badInTrial 19 (.bipush 60) 2 21 from ⟨by decide +kernel, rfl⟩) ?_
    refine J_icmp_lt (tg := 26) (show Dc Y_X11_badInTrial 21 (.if_icmp .lt 5) 3 24 from ⟨by decide +kernel, rfl⟩) (by decide) (fun h => ?_) (fun h => ?_)
    · refine J_iload_n rfl rfl (show Dc Y_X11_badInTrial 26 (.iload_n 2) 1 27 from ⟨by decide +kernel, rfl⟩) ?_
      refine J_if_ne (tg := 51) (show Dc Y_X11_badInTrial 27 (.ifCond .ne 24) 3 30 from ⟨by decide +kernel, rfl⟩) (by decide) (fun h => ?_) (fun h => ?_)
      · refine J_iload_n rfl rfl (show Dc Y_X11_badInTrial 51 (.iload_n 1) 1 52 from ⟨by decide +kernel, rfl⟩) ?_
        refine J_bipush (116 : Int32) rfl (show Dc Y_X11_badInTrial 52 (.bipush 116) 2 54 from ⟨by decide +kernel, rfl⟩) ?_
        refine J_icmp_ne (tg := 66) (show Dc Y_X11_badInTrial 54 (.if_icmp .ne 12) 3 57 from ⟨by decide +kernel, rfl⟩) (by decide) (fun h => ?_) (fun h => ?_)
        · exact j_X11_badInTrial_66 N x0 x1 x2 x3 g h0 hL7
        · refine J_iload_n rfl rfl (show Dc Y_X11_badInTrial 57 (.iload_n 2) 1 58 from ⟨by decide +kernel, rfl⟩) ?_
          refine J_iconst (1 : Int32) rfl (show Dc Y_X11_badInTrial 58 (.iconst 1) 1 59 from ⟨by decide +kernel, rfl⟩) ?_
          refine J_icmp_ne (tg := 66) (show Dc Y_X11_badInTrial 59 (.if_icmp .ne 7) 3 62 from ⟨by decide +kernel, rfl⟩) (by decide) (fun h => ?_) (fun h => ?_)
          · exact j_X11_badInTrial_66 N x0 x1 x2 x3 g h0 hL7
          · refine J_iconst (1 : Int32) rfl (show Dc Y_X11_badInTrial 62 (.iconst 1) 1 63 from ⟨by decide +kernel, rfl⟩) ?_
            refine J_goto (tg := 67) (show Dc Y_X11_badInTrial 63 (.goto 4) 3 66 from ⟨by decide +kernel, rfl⟩) (by decide) ?_
            exact j_X11_badInTrial_67 N x0 x1 x2 x3 (1 : Int32) g h0 hL7
      · refine J_aload_n rfl rfl (show Dc Y_X11_badInTrial 30 (.aload_n 0) 1 31 from ⟨by decide +kernel, rfl⟩) ?_
        refine J_getR (show Dc Y_X11_badInTrial 31 (.getfield 10) 3 34 from ⟨by decide +kernel, rfl⟩) w_f_RX11_10 rfl (fun v5 => ?_)
        refine J_iload_n rfl rfl (show Dc Y_X11_badInTrial 34 (.iload_n 3) 1 35 from ⟨by decide +kernel, rfl⟩) ?_
        refine J_callVi (fun r => r) (fun _ => g) (show Dc Y_X11_badInTrial 35 (.invokevirtual 147) 3 38 from ⟨by decide +kernel, rfl⟩) w_m_RX11_147 w_in_X8_at rfl w_se_X8_at w_cw_X8_at (c_X8_at v5 x3 g) rfl rfl (by decide) (Nat.le_of_ble_eq_true rfl) (by decide) (by decide) (fun v6 => ?_)
        refine J_istore_n [some (.ref x0), some (.int v6), some (.int x2), some (.int x3), none] (show Dc Y_X11_badInTrial 38 (.istore_n 1) 1 39 from ⟨by decide +kernel, rfl⟩) rfl (by decide) rfl rfl ?_
        refine J_iload_n rfl rfl (show Dc Y_X11_badInTrial 39 (.iload_n 1) 1 40 from ⟨by decide +kernel, rfl⟩) ?_
        refine J_callSi (fun r => r) (fun _ => g) (show Dc Y_X11_badInTrial 40 (.invokestatic 307) 3 43 from ⟨by decide +kernel, rfl⟩) w_m_RX11_307 w_st_X11_signsBehind w_cw_X11_signsBehind (c_X11_signsBehind v6 g) rfl rfl (by decide) (Nat.le_of_ble_eq_true rfl) (by decide) (by decide) (fun v7 => ?_)
        refine J_istore_n [some (.ref x0), some (.int v6), some (.int v7), some (.int x3), none] (show Dc Y_X11_badInTrial 43 (.istore_n 2) 1 44 from ⟨by decide +kernel, rfl⟩) rfl (by decide) rfl rfl ?_
        refine J_iload_n rfl rfl (show Dc Y_X11_badInTrial 44 (.iload_n 2) 1 45 from ⟨by decide +kernel, rfl⟩) ?_
        refine J_iconst (-1 : Int32) rfl (show Dc Y_X11_badInTrial 45 (.iconst (-1)) 1 46 from ⟨by decide +kernel, rfl⟩) ?_
        refine J_icmp_ne (tg := 102) (show Dc Y_X11_badInTrial 46 (.if_icmp .ne 56) 3 49 from ⟨by decide +kernel, rfl⟩) (by decide) (fun h => ?_) (fun h => ?_)
        · exact j_X11_badInTrial_102 N x0 v6 v7 x3 g h0 hL7
        · refine J_map (f := Sum.inr) (fun _ h => h) ?_
          refine J_iload_n rfl rfl (show Dc Y_X11_badInTrial 49 (.iload_n 3) 1 50 from ⟨by decide +kernel, rfl⟩) ?_
          exact J_reti (show Dc Y_X11_badInTrial 50 (.ireturn) 1 51 from ⟨by decide +kernel, rfl⟩) rfl (h0 _) (by decide) (by decide)
    · refine J_map (f := Sum.inr) (fun _ h => h) ?_
      refine J_iload_n rfl rfl (show Dc Y_X11_badInTrial 24 (.iload_n 3) 1 25 from ⟨by decide +kernel, rfl⟩) ?_
      exact J_reti (show Dc Y_X11_badInTrial 25 (.ireturn) 1 26 from ⟨by decide +kernel, rfl⟩) rfl (h0 _) (by decide) (by decide)

theorem j_X11_badInTrial {X : ZX} (N : Nat) (x0 : Nat)   (g : ZS) {K : Int32 → Prop} (h0 : ∀ v, K v → xK X (some (.int v)) g) : J Y_X11_badInTrial X 0 0 0 [some (.ref x0), none, none, none, none] [] g (f_X11_badInTrial N x0 g) K := by
  unfold f_X11_badInTrial
  refine J_bipush (120 : Int32) rfl (show Dc Y_X11_badInTrial 0 (.bipush 120) 2 2 from ⟨by decide +kernel, rfl⟩) ?_
  refine J_istore_n [some (.ref x0), some (.int (120 : Int32)), none, none, none] (show Dc Y_X11_badInTrial 2 (.istore_n 1) 1 3 from ⟨by decide +kernel, rfl⟩) rfl (by decide) rfl rfl ?_
  refine J_iconst (0 : Int32) rfl (show Dc Y_X11_badInTrial 3 (.iconst 0) 1 4 from ⟨by decide +kernel, rfl⟩) ?_
  refine J_istore_n [some (.ref x0), some (.int (120 : Int32)), some (.int (0 : Int32)), none, none] (show Dc Y_X11_badInTrial 4 (.istore_n 2) 1 5 from ⟨by decide +kernel, rfl⟩) rfl (by decide) rfl rfl ?_
  refine J_iconst (0 : Int32) rfl (show Dc Y_X11_badInTrial 5 (.iconst 0) 1 6 from ⟨by decide +kernel, rfl⟩) ?_
  refine J_istore_n [some (.ref x0), some (.int (120 : Int32)), some (.int (0 : Int32)), some (.int (0 : Int32)), none] (show Dc Y_X11_badInTrial 6 (.istore_n 3) 1 7 from ⟨by decide +kernel, rfl⟩) rfl (by decide) rfl rfl ?_
  exact J_loop (X := X) (K := K) (uc := fun _ => 0) (us := fun _ => 0) (lf := fun s => [some (.ref x0), some (.int s.1), some (.int s.2.1), some (.int s.2.2), none]) (gf := fun s => g) (fun s => j_X11_badInTrial_7 (K := zKl Y_X11_badInTrial X 7 (fun _ => 0) (fun _ => 0) (fun s => [some (.ref x0), some (.int s.1), some (.int s.2.1), some (.int s.2.2), none]) (fun s => g) K) N x0 s.1 s.2.1 s.2.2 g h0 (fun s h => h)) N ((120 : Int32), (0 : Int32), (0 : Int32))

theorem c_X11_badInTrial {l : Launch} {D : ZD} {B0 : Nat} (N : Nat) (x0 : Nat) (g : ZS) : ∀ r, f_X11_badInTrial N x0 g = some r → zCt l D B0 yX11_badInTrial Y_X11_badInTrial [.ref x0] g (some (.int r)) g :=
  zCt_ofF (vo := fun r => some (.int r)) (so := fun _ => g) (by decide +kernel) rfl (fun h => by cases h) rfl (Nat.le_of_ble_eq_true rfl) (fun X => j_X11_badInTrial N x0 g (fun _ h => h))

theorem j_X11_actAt {X : ZX} (N : Nat) (x0 : Nat) (x1 : Int32)   (g : ZS) {K : (Int32 × ZS) → Prop} (h0 : ∀ v g, K (v, g) → xK X (some (.int v)) g) : J Y_X11_actAt X 0 0 0 [some (.ref x0), some (.int x1), none] [] g (f_X11_actAt N x0 x1 g) K := by
  unfold f_X11_actAt
  refine J_aload_n rfl rfl (show Dc Y_X11_actAt 0 (.aload_n 0) 1 1 from ⟨by decide +kernel, rfl⟩) ?_
  refine J_getR (show Dc Y_X11_actAt 1 (.getfield 10) 3 4 from ⟨by decide +kernel, rfl⟩) w_f_RX11_10 rfl (fun v1 => ?_)
  refine J_iload_n rfl rfl (show Dc Y_X11_actAt 4 (.iload_n 1) 1 5 from ⟨by decide +kernel, rfl⟩) ?_
  refine J_iconst (1 : Int32) rfl (show Dc Y_X11_actAt 5 (.iconst 1) 1 6 from ⟨by decide +kernel, rfl⟩) ?_
  refine J_iadd (show Dc Y_X11_actAt 6 (.iadd) 1 7 from ⟨by decide +kernel, rfl⟩) ?_
  refine J_callVi (fun r => r) (fun _ => g) (show Dc Y_X11_actAt 7 (.invokevirtual 135) 3 10 from ⟨by decide +kernel, rfl⟩) w_m_RX11_135 w_in_X8_digitAt rfl w_se_X8_digitAt w_cw_X8_digitAt (c_X8_digitAt v1 (x1 + (1 : Int32)) g) rfl rfl (by decide) (Nat.le_of_ble_eq_true rfl) (by decide) (by decide) (fun v2 => ?_)
  refine J_istore_n [some (.ref x0), some (.int x1), some (.int v2)] (show Dc Y_X11_actAt 10 (.istore_n 2) 1 11 from ⟨by decide +kernel, rfl⟩) rfl (by decide) rfl rfl ?_
  refine J_aload_n rfl rfl (show Dc Y_X11_actAt 11 (.aload_n 0) 1 12 from ⟨by decide +kernel, rfl⟩) ?_
  refine J_getR (show Dc Y_X11_actAt 12 (.getfield 10) 3 15 from ⟨by decide +kernel, rfl⟩) w_f_RX11_10 rfl (fun v3 => ?_)
  refine J_iload_n rfl rfl (show Dc Y_X11_actAt 15 (.iload_n 1) 1 16 from ⟨by decide +kernel, rfl⟩) ?_
  refine J_callVi (fun r => r) (fun _ => g) (show Dc Y_X11_actAt 16 (.invokevirtual 147) 3 19 from ⟨by decide +kernel, rfl⟩) w_m_RX11_147 w_in_X8_at rfl w_se_X8_at w_cw_X8_at (c_X8_at v3 x1 g) rfl rfl (by decide) (Nat.le_of_ble_eq_true rfl) (by decide) (by decide) (fun v4 => ?_)
  refine J_lsw (tgd := 145) [((100 : Int32), 76, _), ((107 : Int32), 105, _), ((109 : Int32), 86, _), ((115 : Int32), 130, _), ((116 : Int32), 111, _), ((120 : Int32), 140, _)] (show Dc Y_X11_actAt 19 (.lookupswitch 126 #[(100, 57), (107, 86), (109, 67), (115, 111), (116, 92), (120, 121)]) 57 76 from ⟨by decide +kernel, rfl⟩) (by decide) (by simp only [List.map_cons, List.map_nil]; decide +kernel) (by decide) ?_ ?_
  · refine List.forall_mem_cons.mpr ⟨?_, List.forall_mem_cons.mpr ⟨?_, List.forall_mem_cons.mpr ⟨?_, List.forall_mem_cons.mpr ⟨?_, List.forall_mem_cons.mpr ⟨?_, List.forall_mem_cons.mpr ⟨?_, fun _ h => absurd h List.not_mem_nil⟩⟩⟩⟩⟩⟩
    · refine J_aload_n rfl rfl (show Dc Y_X11_actAt 76 (.aload_n 0) 1 77 from ⟨by decide +kernel, rfl⟩) ?_
      refine J_aload_n rfl rfl (show Dc Y_X11_actAt 77 (.aload_n 0) 1 78 from ⟨by decide +kernel, rfl⟩) ?_
      refine J_getR (show Dc Y_X11_actAt 78 (.getfield 47) 3 81 from ⟨by decide +kernel, rfl⟩) w_f_RX11_47 rfl (fun v5 => ?_)
      refine J_iload_n rfl rfl (show Dc Y_X11_actAt 81 (.iload_n 2) 1 82 from ⟨by decide +kernel, rfl⟩) ?_
      refine J_callVi (fun r => r.1) (fun r => r.2) (show Dc Y_X11_actAt 82 (.invokevirtual 248) 3 85 from ⟨by decide +kernel, rfl⟩) w_m_RX11_248 w_in_X11_passDays rfl w_se_X11_passDays w_cw_X11_passDays (c_X11_passDays N x0 v5 v2 g) rfl rfl (by decide) (Nat.le_of_ble_eq_true rfl) (by decide) (by decide) (fun r6 => ?_)
      exact J_reti (show Dc Y_X11_actAt 85 (.ireturn) 1 86 from ⟨by decide +kernel, rfl⟩) rfl (h0 _ _) (by decide) (by decide)
    · refine J_aload_n rfl rfl (show Dc Y_X11_actAt 105 (.aload_n 0) 1 106 from ⟨by decide +kernel, rfl⟩) ?_
      refine J_iload_n rfl rfl (show Dc Y_X11_actAt 106 (.iload_n 2) 1 107 from ⟨by decide +kernel, rfl⟩) ?_
      refine J_callVi (fun r => r.1) (fun r => r.2) (show Dc Y_X11_actAt 107 (.invokevirtual 278) 3 110 from ⟨by decide +kernel, rfl⟩) w_m_RX11_278 w_in_X11_cover rfl w_se_X11_cover w_cw_X11_cover (c_X11_cover N x0 v2 g) rfl rfl (by decide) (Nat.le_of_ble_eq_true rfl) (by decide) (by decide) (fun r7 => ?_)
      exact J_reti (show Dc Y_X11_actAt 110 (.ireturn) 1 111 from ⟨by decide +kernel, rfl⟩) rfl (h0 _ _) (by decide) (by decide)
    · refine J_aload_n rfl rfl (show Dc Y_X11_actAt 86 (.aload_n 0) 1 87 from ⟨by decide +kernel, rfl⟩) ?_
      refine J_getR (show Dc Y_X11_actAt 87 (.getfield 47) 3 90 from ⟨by decide +kernel, rfl⟩) w_f_RX11_47 rfl (fun v8 => ?_)
      refine J_iload_n rfl rfl (show Dc Y_X11_actAt 90 (.iload_n 2) 1 91 from ⟨by decide +kernel, rfl⟩) ?_
      refine J_aload_n rfl rfl (show Dc Y_X11_actAt 91 (.aload_n 0) 1 92 from ⟨by decide +kernel, rfl⟩) ?_
      refine J_getR (show Dc Y_X11_actAt 92 (.getfield 10) 3 95 from ⟨by decide +kernel, rfl⟩) w_f_RX11_10 rfl (fun v9 => ?_)
      refine J_iload_n rfl rfl (show Dc Y_X11_actAt 95 (.iload_n 1) 1 96 from ⟨by decide +kernel, rfl⟩) ?_
      refine J_iconst (2 : Int32) rfl (show Dc Y_X11_actAt 96 (.iconst 2) 1 97 from ⟨by decide +kernel, rfl⟩) ?_
      refine J_iadd (show Dc Y_X11_actAt 97 (.iadd) 1 98 from ⟨by decide +kernel, rfl⟩) ?_
      refine J_callVi (fun r => r) (fun _ => g) (show Dc Y_X11_actAt 98 (.invokevirtual 135) 3 101 from ⟨by decide +kernel, rfl⟩) w_m_RX11_135 w_in_X8_digitAt rfl w_se_X8_digitAt w_cw_X8_digitAt (c_X8_digitAt v9 (x1 + (2 : Int32)) g) rfl rfl (by decide) (Nat.le_of_ble_eq_true rfl) (by decide) (by decide) (fun v10 => ?_)
      refine J_callSi (fun r => r.1) (fun r => r.2) (show Dc Y_X11_actAt 101 (.invokestatic 271) 3 104 from ⟨by decide +kernel, rfl⟩) w_m_RX11_271 w_st_X11_bring w_cw_X11_bring (c_X11_bring v8 v2 v10 g) rfl rfl (by decide) (Nat.le_of_ble_eq_true rfl) (by decide) (by decide) (fun r11 => ?_)
      exact J_reti (show Dc Y_X11_actAt 104 (.ireturn) 1 105 from ⟨by decide +kernel, rfl⟩) rfl (h0 _ _) (by decide) (by decide)
    · refine J_aload_n rfl rfl (show Dc Y_X11_actAt 130 (.aload_n 0) 1 131 from ⟨by decide +kernel, rfl⟩) ?_
      refine J_aload_n rfl rfl (show Dc Y_X11_actAt 131 (.aload_n 0) 1 132 from ⟨by decide +kernel, rfl⟩) ?_
      refine J_getR (show Dc Y_X11_actAt 132 (.getfield 47) 3 135 from ⟨by decide +kernel, rfl⟩) w_f_RX11_47 rfl (fun v12 => ?_)
      refine J_iload_n rfl rfl (show Dc Y_X11_actAt 135 (.iload_n 2) 1 136 from ⟨by decide +kernel, rfl⟩) ?_
      refine J_callVi (fun r => r.1) (fun r => r.2) (show Dc Y_X11_actAt 136 (.invokevirtual 286) 3 139 from ⟨by decide +kernel, rfl⟩) w_m_RX11_286 w_in_X11_utter rfl w_se_X11_utter w_cw_X11_utter (c_X11_utter N x0 v12 v2 g) rfl rfl (by decide) (Nat.le_of_ble_eq_true rfl) (by decide) (by decide) (fun r13 => ?_)
      exact J_reti (show Dc Y_X11_actAt 139 (.ireturn) 1 140 from ⟨by decide +kernel, rfl⟩) rfl (h0 _ _) (by decide) (by decide)
    · refine J_aload_n rfl rfl (show Dc Y_X11_actAt 111 (.aload_n 0) 1 112 from ⟨by decide +kernel, rfl⟩) ?_
      refine J_getR (show Dc Y_X11_actAt 112 (.getfield 47) 3 115 from ⟨by decide +kernel, rfl⟩) w_f_RX11_47 rfl (fun v14 => ?_)
      refine J_iload_n rfl rfl (show Dc Y_X11_actAt 115 (.iload_n 2) 1 116 from ⟨by decide +kernel, rfl⟩) ?_
      refine J_aload_n rfl rfl (show Dc Y_X11_actAt 116 (.aload_n 0) 1 117 from ⟨by decide +kernel, rfl⟩) ?_
      refine J_getR (show Dc Y_X11_actAt 117 (.getfield 10) 3 120 from ⟨by decide +kernel, rfl⟩) w_f_RX11_10 rfl (fun v15 => ?_)
      refine J_iload_n rfl rfl (show Dc Y_X11_actAt 120 (.iload_n 1) 1 121 from ⟨by decide +kernel, rfl⟩) ?_
      refine J_iconst (2 : Int32) rfl (show Dc Y_X11_actAt 121 (.iconst 2) 1 122 from ⟨by decide +kernel, rfl⟩) ?_
      refine J_iadd (show Dc Y_X11_actAt 122 (.iadd) 1 123 from ⟨by decide +kernel, rfl⟩) ?_
      refine J_callVi (fun r => r) (fun _ => g) (show Dc Y_X11_actAt 123 (.invokevirtual 311) 3 126 from ⟨by decide +kernel, rfl⟩) w_m_RX11_311 w_in_X8_wordAt rfl w_se_X8_wordAt w_cw_X8_wordAt (c_X8_wordAt v15 (x1 + (2 : Int32)) g) rfl rfl (by decide) (Nat.le_of_ble_eq_true rfl) (by decide) (by decide) (fun v16 => ?_)
      refine J_callSi (fun r => r.1) (fun r => r.2) (show Dc Y_X11_actAt 126 (.invokestatic 283) 3 129 from ⟨by decide +kernel, rfl⟩) w_m_RX11_283 w_st_X11_feed w_cw_X11_feed (c_X11_feed v14 v2 v16 g) rfl rfl (by decide) (Nat.le_of_ble_eq_true rfl) (by decide) (by decide) (fun r17 => ?_)
      exact J_reti (show Dc Y_X11_actAt 129 (.ireturn) 1 130 from ⟨by decide +kernel, rfl⟩) rfl (h0 _ _) (by decide) (by decide)
    · refine J_aload_n rfl rfl (show Dc Y_X11_actAt 140 (.aload_n 0) 1 141 from ⟨by decide +kernel, rfl⟩) ?_
      refine J_callVi (fun r => r.1) (fun r => r.2) (show Dc Y_X11_actAt 141 (.invokevirtual 295) 3 144 from ⟨by decide +kernel, rfl⟩) w_m_RX11_295 w_in_X11_silence rfl w_se_X11_silence w_cw_X11_silence (c_X11_silence N x0 g) rfl rfl (by decide) (Nat.le_of_ble_eq_true rfl) (by decide) (by decide) (fun r18 => ?_)
      exact J_reti (show Dc Y_X11_actAt 144 (.ireturn) 1 145 from ⟨by decide +kernel, rfl⟩) rfl (h0 _ _) (by decide) (by decide)
  · refine J_iconst (-1 : Int32) rfl (show Dc Y_X11_actAt 145 (.iconst (-1)) 1 146 from ⟨by decide +kernel, rfl⟩) ?_
    exact J_reti (show Dc Y_X11_actAt 146 (.ireturn) 1 147 from ⟨by decide +kernel, rfl⟩) rfl (h0 _ _) (by decide) (by decide)

theorem c_X11_actAt {l : Launch} {D : ZD} {B0 : Nat} (N : Nat) (x0 : Nat) (x1 : Int32) (g : ZS) : ∀ r, f_X11_actAt N x0 x1 g = some r → zCt l D B0 yX11_actAt Y_X11_actAt [.ref x0, .int x1] g (some (.int r.1)) r.2 :=
  zCt_ofF (vo := fun r => some (.int r.1)) (so := fun r => r.2) (by decide +kernel) rfl (fun h => by cases h) rfl (Nat.le_of_ble_eq_true rfl) (fun X => j_X11_actAt N x0 x1 g (fun _ _ h => h))

theorem j_X9_pair {X : ZX} (x0 : Nat) (x1 : Int64) (x3 : Int64)   (g : ZS) {K : ZS → Prop} (h0 : ∀ g, K g → xK X none g) : J Y_X9_pair X 0 0 0 [some (.ref x0), some (.long x1), none, some (.long x3), none] [] g (f_X9_pair x0 x1 x3 g) K := by
  unfold f_X9_pair
  refine J_aload_n rfl rfl (show Dc Y_X9_pair 0 (.aload_n 0) 1 1 from ⟨by decide +kernel, rfl⟩) ?_
  refine J_iconst (0 : Int32) rfl (show Dc Y_X9_pair 1 (.iconst 0) 1 2 from ⟨by decide +kernel, rfl⟩) ?_
  refine J_putI (show Dc Y_X9_pair 2 (.putfield 15) 3 5 from ⟨by decide +kernel, rfl⟩) w_f_RX9_15 rfl rfl (fun g1 => ?_) (fun h => by cases h)
  refine J_aload_n rfl rfl (show Dc Y_X9_pair 5 (.aload_n 0) 1 6 from ⟨by decide +kernel, rfl⟩) ?_
  refine J_lload_n rfl rfl (show Dc Y_X9_pair 6 (.lload_n 1) 1 7 from ⟨by decide +kernel, rfl⟩) ?_
  refine J_callVv (fun r => r) (show Dc Y_X9_pair 7 (.invokevirtual 19) 3 10 from ⟨by decide +kernel, rfl⟩) w_m_RX9_19 w_in_X9_add rfl w_se_X9_add w_cw_X9_add (c_X9_add x0 x1 g1) rfl rfl (by decide) (Nat.le_of_ble_eq_true rfl) (by decide) (by decide) (fun g2 => ?_)
  refine J_aload_n rfl rfl (show Dc Y_X9_pair 10 (.aload_n 0) 1 11 from ⟨by decide +kernel, rfl⟩) ?_
  refine J_lload_n rfl rfl (show Dc Y_X9_pair 11 (.lload_n 3) 1 12 from ⟨by decide +kernel, rfl⟩) ?_
  refine J_callVv (fun r => r) (show Dc Y_X9_pair 12 (.invokevirtual 19) 3 15 from ⟨by decide +kernel, rfl⟩) w_m_RX9_19 w_in_X9_add rfl w_se_X9_add w_cw_X9_add (c_X9_add x0 x3 g2) rfl rfl (by decide) (Nat.le_of_ble_eq_true rfl) (by decide) (by decide) (fun g3 => ?_)
  exact J_ret0 (show Dc Y_X9_pair 15 (.return_) 1 16 from ⟨by decide +kernel, rfl⟩) rfl (h0 _) (by decide) (by decide)

theorem c_X9_pair {l : Launch} {D : ZD} {B0 : Nat} (x0 : Nat) (x1 : Int64) (x3 : Int64) (g : ZS) : ∀ r, f_X9_pair x0 x1 x3 g = some r → zCt l D B0 yX9_pair Y_X9_pair [.ref x0, .long x1, .long x3] g none r :=
  zCt_ofF (vo := fun _ => none) (so := fun r => r) (by decide +kernel) rfl (fun h => by cases h) rfl (Nat.le_of_ble_eq_true rfl) (fun X => j_X9_pair x0 x1 x3 g (fun _ h => h))

theorem j_X12_readAct_133 {X : ZX}    (g : ZS) {K : ZS → Prop} (h0 : ∀ g, K g → xK X none g) : J Y_X12_readAct X 0 0 133 [none, none, none] [] g (f_X12_readAct_133 g) K := by
  unfold f_X12_readAct_133
  exact J_ret0 (show Dc Y_X12_readAct 133 (.return_) 1 134 from ⟨by decide +kernel, rfl⟩) rfl (h0 _) (by decide) (by decide)

theorem j_X12_readAct_111 {X : ZX} (x0 : Nat) (x1 : Int32) (x2 : Int32)   (g : ZS) {K : ZS → Prop} (h0 : ∀ g, K g → xK X none g) : J Y_X12_readAct X 0 0 111 [some (.ref x0), some (.int x1), some (.int x2)] [] g (f_X12_readAct_111 x0 x1 x2 g) K := by
  unfold f_X12_readAct_111
  refine J_iload_n rfl rfl (show Dc Y_X12_readAct 111 (.iload_n 2) 1 112 from ⟨by decide +kernel, rfl⟩) ?_
  refine J_bipush (116 : Int32) rfl (show Dc Y_X12_readAct 112 (.bipush 116) 2 114 from ⟨by decide +kernel, rfl⟩) ?_
  refine J_icmp_ne (tg := 133) (show Dc Y_X12_readAct 114 (.if_icmp .ne 19) 3 117 from ⟨by decide +kernel, rfl⟩) (by decide) (fun h => ?_) (fun h => ?_)
  · refine J_mask [false, false, false] ?_
    exact j_X12_readAct_133 g h0
  · refine J_aload_n rfl rfl (show Dc Y_X12_readAct 117 (.aload_n 0) 1 118 from ⟨by decide +kernel, rfl⟩) ?_
    refine J_getR (show Dc Y_X12_readAct 118 (.getfield 63) 3 121 from ⟨by decide +kernel, rfl⟩) w_f_RX12_63 rfl (fun v1 => ?_)
    refine J_iload_n rfl rfl (show Dc Y_X12_readAct 121 (.iload_n 1) 1 122 from ⟨by decide +kernel, rfl⟩) ?_
    refine J_iconst (2 : Int32) rfl (show Dc Y_X12_readAct 122 (.iconst 2) 1 123 from ⟨by decide +kernel, rfl⟩) ?_
    refine J_iadd (show Dc Y_X12_readAct 123 (.iadd) 1 124 from ⟨by decide +kernel, rfl⟩) ?_
    refine J_aload_n rfl rfl (show Dc Y_X12_readAct 124 (.aload_n 0) 1 125 from ⟨by decide +kernel, rfl⟩) ?_
    refine J_bipush (97 : Int32) rfl (show Dc Y_X12_readAct 125 (.bipush 97) 2 127 from ⟨by decide +kernel, rfl⟩) ?_
    refine J_bipush (8 : Int32) rfl (show Dc Y_X12_readAct 127 (.bipush 8) 2 129 from ⟨by decide +kernel, rfl⟩) ?_
    refine J_callVi (fun r => r.1) (fun r => r.2) (show Dc Y_X12_readAct 129 (.invokevirtual 161) 3 132 from ⟨by decide +kernel, rfl⟩) w_m_RX12_161 w_in_X12_oneOf rfl w_se_X12_oneOf w_cw_X12_oneOf (c_X12_oneOf x0 (97 : Int32) (8 : Int32) g) rfl rfl (by decide) (Nat.le_of_ble_eq_true rfl) (by decide) (by decide) (fun r2 => ?_)
    refine J_iast (show Dc Y_X12_readAct 132 (.iastore) 1 133 from ⟨by decide +kernel, rfl⟩) (fun g3 => ?_)
    refine J_mask [false, false, false] ?_
    exact j_X12_readAct_133 g3 h0

theorem j_X12_readAct_89 {X : ZX} (x0 : Nat) (x1 : Int32) (x2 : Int32)   (g : ZS) {K : ZS → Prop} (h0 : ∀ g, K g → xK X none g) : J Y_X12_readAct X 0 0 89 [some (.ref x0), some (.int x1), some (.int x2)] [] g (f_X12_readAct_89 x0 x1 x2 g) K := by
  unfold f_X12_readAct_89
  refine J_iload_n rfl rfl (show Dc Y_X12_readAct 89 (.iload_n 2) 1 90 from ⟨by decide +kernel, rfl⟩) ?_
  refine J_bipush (109 : Int32) rfl (show Dc Y_X12_readAct 90 (.bipush 109) 2 92 from ⟨by decide +kernel, rfl⟩) ?_
  refine J_icmp_ne (tg := 111) (show Dc Y_X12_readAct 92 (.if_icmp .ne 19) 3 95 from ⟨by decide +kernel, rfl⟩) (by decide) (fun h => ?_) (fun h => ?_)
  · exact j_X12_readAct_111 x0 x1 x2 g h0
  · refine J_aload_n rfl rfl (show Dc Y_X12_readAct 95 (.aload_n 0) 1 96 from ⟨by decide +kernel, rfl⟩) ?_
    refine J_getR (show Dc Y_X12_readAct 96 (.getfield 63) 3 99 from ⟨by decide +kernel, rfl⟩) w_f_RX12_63 rfl (fun v1 => ?_)
    refine J_iload_n rfl rfl (show Dc Y_X12_readAct 99 (.iload_n 1) 1 100 from ⟨by decide +kernel, rfl⟩) ?_
    refine J_iconst (2 : Int32) rfl (show Dc Y_X12_readAct 100 (.iconst 2) 1 101 from ⟨by decide +kernel, rfl⟩) ?_
    refine J_iadd (show Dc Y_X12_readAct 101 (.iadd) 1 102 from ⟨by decide +kernel, rfl⟩) ?_
    refine J_aload_n rfl rfl (show Dc Y_X12_readAct 102 (.aload_n 0) 1 103 from ⟨by decide +kernel, rfl⟩) ?_
    refine J_bipush (48 : Int32) rfl (show Dc Y_X12_readAct 103 (.bipush 48) 2 105 from ⟨by decide +kernel, rfl⟩) ?_
    refine J_bipush (10 : Int32) rfl (show Dc Y_X12_readAct 105 (.bipush 10) 2 107 from ⟨by decide +kernel, rfl⟩) ?_
    refine J_callVi (fun r => r.1) (fun r => r.2) (show Dc Y_X12_readAct 107 (.invokevirtual 161) 3 110 from ⟨by decide +kernel, rfl⟩) w_m_RX12_161 w_in_X12_oneOf rfl w_se_X12_oneOf w_cw_X12_oneOf (c_X12_oneOf x0 (48 : Int32) (10 : Int32) g) rfl rfl (by decide) (Nat.le_of_ble_eq_true rfl) (by decide) (by decide) (fun r2 => ?_)
    refine J_iast (show Dc Y_X12_readAct 110 (.iastore) 1 111 from ⟨by decide +kernel, rfl⟩) (fun g3 => ?_)
    exact j_X12_readAct_111 x0 x1 x2 g3 h0

theorem j_X12_readAct_50 {X : ZX} (x0 : Nat) (x1 : Int32) (x2 : Int32)   (g : ZS) {K : ZS → Prop} (h0 : ∀ g, K g → xK X none g) : J Y_X12_readAct X 0 0 50 [some (.ref x0), some (.int x1), some (.int x2)] [] g (f_X12_readAct_50 x0 x1 x2 g) K := by
  unfold f_X12_readAct_50
  refine J_aload_n rfl rfl (show Dc Y_X12_readAct 50 (.aload_n 0) 1 51 from ⟨by decide +kernel, rfl⟩) ?_
  refine J_dup rfl (show Dc Y_X12_readAct 51 (.dup) 1 52 from ⟨by decide +kernel, rfl⟩) ?_
  refine J_getI (show Dc Y_X12_readAct 52 (.getfield 135) 3 55 from ⟨by decide +kernel, rfl⟩) w_f_RX12_135 rfl (fun v1 => ?_)
  refine J_iconst (1 : Int32) rfl (show Dc Y_X12_readAct 55 (.iconst 1) 1 56 from ⟨by decide +kernel, rfl⟩) ?_
  refine J_iadd (show Dc Y_X12_readAct 56 (.iadd) 1 57 from ⟨by decide +kernel, rfl⟩) ?_
  refine J_putI (show Dc Y_X12_readAct 57 (.putfield 135) 3 60 from ⟨by decide +kernel, rfl⟩) w_f_RX12_135 rfl rfl (fun g2 => ?_) (fun h => by cases h)
  refine J_aload_n rfl rfl (show Dc Y_X12_readAct 60 (.aload_n 0) 1 61 from ⟨by decide +kernel, rfl⟩) ?_
  refine J_getR (show Dc Y_X12_readAct 61 (.getfield 63) 3 64 from ⟨by decide +kernel, rfl⟩) w_f_RX12_63 rfl (fun v3 => ?_)
  refine J_iload_n rfl rfl (show Dc Y_X12_readAct 64 (.iload_n 1) 1 65 from ⟨by decide +kernel, rfl⟩) ?_
  refine J_iload_n rfl rfl (show Dc Y_X12_readAct 65 (.iload_n 2) 1 66 from ⟨by decide +kernel, rfl⟩) ?_
  refine J_iast (show Dc Y_X12_readAct 66 (.iastore) 1 67 from ⟨by decide +kernel, rfl⟩) (fun g4 => ?_)
  refine J_iload_n rfl rfl (show Dc Y_X12_readAct 67 (.iload_n 2) 1 68 from ⟨by decide +kernel, rfl⟩) ?_
  refine J_bipush (120 : Int32) rfl (show Dc Y_X12_readAct 68 (.bipush 120) 2 70 from ⟨by decide +kernel, rfl⟩) ?_
  refine J_icmp_eq (tg := 89) (show Dc Y_X12_readAct 70 (.if_icmp .eq 19) 3 73 from ⟨by decide +kernel, rfl⟩) (by decide) (fun h => ?_) (fun h => ?_)
  · exact j_X12_readAct_89 x0 x1 x2 g4 h0
  · refine J_aload_n rfl rfl (show Dc Y_X12_readAct 73 (.aload_n 0) 1 74 from ⟨by decide +kernel, rfl⟩) ?_
    refine J_getR (show Dc Y_X12_readAct 74 (.getfield 63) 3 77 from ⟨by decide +kernel, rfl⟩) w_f_RX12_63 rfl (fun v5 => ?_)
    refine J_iload_n rfl rfl (show Dc Y_X12_readAct 77 (.iload_n 1) 1 78 from ⟨by decide +kernel, rfl⟩) ?_
    refine J_iconst (1 : Int32) rfl (show Dc Y_X12_readAct 78 (.iconst 1) 1 79 from ⟨by decide +kernel, rfl⟩) ?_
    refine J_iadd (show Dc Y_X12_readAct 79 (.iadd) 1 80 from ⟨by decide +kernel, rfl⟩) ?_
    refine J_aload_n rfl rfl (show Dc Y_X12_readAct 80 (.aload_n 0) 1 81 from ⟨by decide +kernel, rfl⟩) ?_
    refine J_bipush (48 : Int32) rfl (show Dc Y_X12_readAct 81 (.bipush 48) 2 83 from ⟨by decide +kernel, rfl⟩) ?_
    refine J_bipush (10 : Int32) rfl (show Dc Y_X12_readAct 83 (.bipush 10) 2 85 from ⟨by decide +kernel, rfl⟩) ?_
    refine J_callVi (fun r => r.1) (fun r => r.2) (show Dc Y_X12_readAct 85 (.invokevirtual 161) 3 88 from ⟨by decide +kernel, rfl⟩) w_m_RX12_161 w_in_X12_oneOf rfl w_se_X12_oneOf w_cw_X12_oneOf (c_X12_oneOf x0 (48 : Int32) (10 : Int32) g4) rfl rfl (by decide) (Nat.le_of_ble_eq_true rfl) (by decide) (by decide) (fun r6 => ?_)
    refine J_iast (show Dc Y_X12_readAct 88 (.iastore) 1 89 from ⟨by decide +kernel, rfl⟩) (fun g7 => ?_)
    exact j_X12_readAct_89 x0 x1 x2 g7 h0

theorem j_X12_readAct {X : ZX} (x0 : Nat) (x1 : Int32)   (g : ZS) {K : ZS → Prop} (h0 : ∀ g, K g → xK X none g) : J Y_X12_readAct X 0 0 0 [some (.ref x0), some (.int x1), none] [] g (f_X12_readAct x0 x1 g) K := by
  unfold f_X12_readAct
  refine J_aload_n rfl rfl (show Dc Y_X12_readAct 0 (.aload_n 0) 1 1 from ⟨by decide +kernel, rfl⟩) ?_
  refine J_callVi (fun r => r) (fun _ => g) (show Dc Y_X12_readAct 1 (.invokevirtual 149) 3 4 from ⟨by decide +kernel, rfl⟩) w_m_RX12_149 w_in_X12_here rfl w_se_X12_here w_cw_X12_here (c_X12_here x0 g) rfl rfl (by decide) (Nat.le_of_ble_eq_true rfl) (by decide) (by decide) (fun v1 => ?_)
  refine J_istore_n [some (.ref x0), some (.int x1), some (.int v1)] (show Dc Y_X12_readAct 4 (.istore_n 2) 1 5 from ⟨by decide +kernel, rfl⟩) rfl (by decide) rfl rfl ?_
  refine J_iload_n rfl rfl (show Dc Y_X12_readAct 5 (.iload_n 2) 1 6 from ⟨by decide +kernel, rfl⟩) ?_
  refine J_bipush (100 : Int32) rfl (show Dc Y_X12_readAct 6 (.bipush 100) 2 8 from ⟨by decide +kernel, rfl⟩) ?_
  refine J_icmp_eq (tg := 50) (show Dc Y_X12_readAct 8 (.if_icmp .eq 42) 3 11 from ⟨by decide +kernel, rfl⟩) (by decide) (fun h => ?_) (fun h => ?_)
  · exact j_X12_readAct_50 x0 x1 v1 g h0
  · refine J_iload_n rfl rfl (show Dc Y_X12_readAct 11 (.iload_n 2) 1 12 from ⟨by decide +kernel, rfl⟩) ?_
    refine J_bipush (109 : Int32) rfl (show Dc Y_X12_readAct 12 (.bipush 109) 2 14 from ⟨by decide +kernel, rfl⟩) ?_
    refine J_icmp_eq (tg := 50) (show Dc Y_X12_readAct 14 (.if_icmp .eq 36) 3 17 from ⟨by decide +kernel, rfl⟩) (by decide) (fun h => ?_) (fun h => ?_)
    · exact j_X12_readAct_50 x0 x1 v1 g h0
    · refine J_iload_n rfl rfl (show Dc Y_X12_readAct 17 (.iload_n 2) 1 18 from ⟨by decide +kernel, rfl⟩) ?_
      refine J_bipush (107 : Int32) rfl (show Dc Y_X12_readAct 18 (.bipush 107) 2 20 from ⟨by decide +kernel, rfl⟩) ?_
      refine J_icmp_eq (tg := 50) (show Dc Y_X12_readAct 20 (.if_icmp .eq 30) 3 23 from ⟨by decide +kernel, rfl⟩) (by decide) (fun h => ?_) (fun h => ?_)
      · exact j_X12_readAct_50 x0 x1 v1 g h0
      · refine J_iload_n rfl rfl (show Dc Y_X12_readAct 23 (.iload_n 2) 1 24 from ⟨by decide +kernel, rfl⟩) ?_
        refine J_bipush (116 : Int32) rfl (show Dc Y_X12_readAct 24 (.bipush 116) 2 26 from ⟨by decide +kernel, rfl⟩) ?_
        refine J_icmp_eq (tg := 50) (show Dc Y_X12_readAct 26 (.if_icmp .eq 24) 3 29 from ⟨by decide +kernel, rfl⟩) (by decide) (fun h => ?_) (fun h => ?_)
        · exact j_X12_readAct_50 x0 x1 v1 g h0
        · refine J_iload_n rfl rfl (show Dc Y_X12_readAct 29 (.iload_n 2) 1 30 from ⟨by decide +kernel, rfl⟩) ?_
          refine J_bipush (115 : Int32) rfl (show Dc Y_X12_readAct 30 (.bipush 115) 2 32 from ⟨by decide +kernel, rfl⟩) ?_
          refine J_icmp_eq (tg := 50) (show Dc Y_X12_readAct 32 (.if_icmp .eq 18) 3 35 from ⟨by decide +kernel, rfl⟩) (by decide) (fun h => ?_) (fun h => ?_)
          · exact j_X12_readAct_50 x0 x1 v1 g h0
          · refine J_iload_n rfl rfl (show Dc Y_X12_readAct 35 (.iload_n 2) 1 36 from ⟨by decide +kernel, rfl⟩) ?_
            refine J_bipush (120 : Int32) rfl (show Dc Y_X12_readAct 36 (.bipush 120) 2 38 from ⟨by decide +kernel, rfl⟩) ?_
            refine J_icmp_eq (tg := 50) (show Dc Y_X12_readAct 38 (.if_icmp .eq 12) 3 41 from ⟨by decide +kernel, rfl⟩) (by decide) (fun h => ?_) (fun h => ?_)
            · exact j_X12_readAct_50 x0 x1 v1 g h0
            · refine J_aload_n rfl rfl (show Dc Y_X12_readAct 41 (.aload_n 0) 1 42 from ⟨by decide +kernel, rfl⟩) ?_
              refine J_aload_n rfl rfl (show Dc Y_X12_readAct 42 (.aload_n 0) 1 43 from ⟨by decide +kernel, rfl⟩) ?_
              refine J_getI (show Dc Y_X12_readAct 43 (.getfield 135) 3 46 from ⟨by decide +kernel, rfl⟩) w_f_RX12_135 rfl (fun v2 => ?_)
              refine J_callVv (fun r => r) (show Dc Y_X12_readAct 46 (.invokevirtual 157) 3 49 from ⟨by decide +kernel, rfl⟩) w_m_RX12_157 w_in_X12_fault rfl w_se_X12_fault w_cw_X12_fault (c_X12_fault x0 v2 g) rfl rfl (by decide) (Nat.le_of_ble_eq_true rfl) (by decide) (by decide) (fun g3 => ?_)
              exact J_ret0 (show Dc Y_X12_readAct 49 (.return_) 1 50 from ⟨by decide +kernel, rfl⟩) rfl (h0 _) (by decide) (by decide)

theorem c_X12_readAct {l : Launch} {D : ZD} {B0 : Nat} (x0 : Nat) (x1 : Int32) (g : ZS) : ∀ r, f_X12_readAct x0 x1 g = some r → zCt l D B0 yX12_readAct Y_X12_readAct [.ref x0, .int x1] g none r :=
  zCt_ofF (vo := fun _ => none) (so := fun r => r) (by decide +kernel) rfl (fun h => by cases h) rfl (Nat.le_of_ble_eq_true rfl) (fun X => j_X12_readAct x0 x1 g (fun _ h => h))

theorem j_X12_undo_26 {X : ZX} (N : Nat) (x0 : Nat) (x1 : Int32)   (g : ZS) {K : ((Int32 × ZS) ⊕ (Int32 × ZS)) → Prop} (h0 : ∀ v g, K (.inr (v, g)) → xK X (some (.int v)) g) (hL26 : ∀ s, K (.inl s) → zG Y_X12_undo X 0 0 26 [some (.ref x0), some (.int s.1)] [] s.2) : J Y_X12_undo X 0 0 26 [some (.ref x0), some (.int x1)] [] g (f_X12_undo_26 N x0 x1 g) K := by
  unfold f_X12_undo_26
  refine J_iload_n rfl rfl (show Dc Y_X12_undo 26 (.iload_n 1) 1 27 from ⟨by decide +kernel, rfl⟩) ?_
  refine J_sipush (217 : Int32) rfl (show Dc Y_X12_undo 27 (.sipush 217) 3 30 from ⟨by decide +kernel, rfl⟩) ?_
  refine J_icmp_ge (tg := 60) (show Dc Y_X12_undo 30 (.if_icmp .ge 30) 3 33 from ⟨by decide +kernel, rfl⟩) (by decide) (fun h => ?_) (fun h => ?_)
  · refine J_map (f := Sum.inr) (fun _ h => h) ?_
    refine J_aload_n rfl rfl (show Dc Y_X12_undo 60 (.aload_n 0) 1 61 from ⟨by decide +kernel, rfl⟩) ?_
    refine J_getI (show Dc Y_X12_undo 61 (.getfield 183) 3 64 from ⟨by decide +kernel, rfl⟩) w_f_RX12_183 rfl (fun v1 => ?_)
    exact J_reti (show Dc Y_X12_undo 64 (.ireturn) 1 65 from ⟨by decide +kernel, rfl⟩) rfl (h0 _ _) (by decide) (by decide)
  · refine J_aload_n rfl rfl (show Dc Y_X12_undo 33 (.aload_n 0) 1 34 from ⟨by decide +kernel, rfl⟩) ?_
    refine J_getR (show Dc Y_X12_undo 34 (.getfield 9) 3 37 from ⟨by decide +kernel, rfl⟩) w_f_RX12_9 rfl (fun v2 => ?_)
    refine J_iload_n rfl rfl (show Dc Y_X12_undo 37 (.iload_n 1) 1 38 from ⟨by decide +kernel, rfl⟩) ?_
    refine J_aload_n rfl rfl (show Dc Y_X12_undo 38 (.aload_n 0) 1 39 from ⟨by decide +kernel, rfl⟩) ?_
    refine J_getR (show Dc Y_X12_undo 39 (.getfield 54) 3 42 from ⟨by decide +kernel, rfl⟩) w_f_RX12_54 rfl (fun v3 => ?_)
    refine J_sipush (217 : Int32) rfl (show Dc Y_X12_undo 42 (.sipush 217) 3 45 from ⟨by decide +kernel, rfl⟩) ?_
    refine J_aload_n rfl rfl (show Dc Y_X12_undo 45 (.aload_n 0) 1 46 from ⟨by decide +kernel, rfl⟩) ?_
    refine J_getI (show Dc Y_X12_undo 46 (.getfield 183) 3 49 from ⟨by decide +kernel, rfl⟩) w_f_RX12_183 rfl (fun v4 => ?_)
    refine J_imul (show Dc Y_X12_undo 49 (.imul) 1 50 from ⟨by decide +kernel, rfl⟩) ?_
    refine J_iload_n rfl rfl (show Dc Y_X12_undo 50 (.iload_n 1) 1 51 from ⟨by decide +kernel, rfl⟩) ?_
    refine J_iadd (show Dc Y_X12_undo 51 (.iadd) 1 52 from ⟨by decide +kernel, rfl⟩) ?_
    refine J_iald (show Dc Y_X12_undo 52 (.iaload) 1 53 from ⟨by decide +kernel, rfl⟩) (fun v5 => ?_)
    refine J_iast (show Dc Y_X12_undo 53 (.iastore) 1 54 from ⟨by decide +kernel, rfl⟩) (fun g6 => ?_)
    refine J_iinc (1 : Int32) [some (.ref x0), some (.int (x1 + (1 : Int32)))] (show Dc Y_X12_undo 54 (.iinc 1 1) 3 57 from ⟨by decide +kernel, rfl⟩) rfl rfl (by decide) rfl rfl ?_
    refine J_goto (tg := 26) (show Dc Y_X12_undo 57 (.goto (-31)) 3 60 from ⟨by decide +kernel, rfl⟩) (by decide) ?_
    exact J_leaf (fun h => hL26 (x1 + (1 : Int32), g6) h)

theorem j_X12_undo {X : ZX} (N : Nat) (x0 : Nat)   (g : ZS) {K : (Int32 × ZS) → Prop} (h0 : ∀ v g, K (v, g) → xK X (some (.int v)) g) : J Y_X12_undo X 0 0 0 [some (.ref x0), none] [] g (f_X12_undo N x0 g) K := by
  unfold f_X12_undo
  refine J_aload_n rfl rfl (show Dc Y_X12_undo 0 (.aload_n 0) 1 1 from ⟨by decide +kernel, rfl⟩) ?_
  refine J_iconst (0 : Int32) rfl (show Dc Y_X12_undo 1 (.iconst 0) 1 2 from ⟨by decide +kernel, rfl⟩) ?_
  refine J_putI (show Dc Y_X12_undo 2 (.putfield 109) 3 5 from ⟨by decide +kernel, rfl⟩) w_f_RX12_109 rfl rfl (fun g1 => ?_) (fun h => by cases h)
  refine J_aload_n rfl rfl (show Dc Y_X12_undo 5 (.aload_n 0) 1 6 from ⟨by decide +kernel, rfl⟩) ?_
  refine J_getI (show Dc Y_X12_undo 6 (.getfield 183) 3 9 from ⟨by decide +kernel, rfl⟩) w_f_RX12_183 rfl (fun v2 => ?_)
  refine J_if_ne (tg := 14) (show Dc Y_X12_undo 9 (.ifCond .ne 5) 3 12 from ⟨by decide +kernel, rfl⟩) (by decide) (fun h => ?_) (fun h => ?_)
  · refine J_aload_n rfl rfl (show Dc Y_X12_undo 14 (.aload_n 0) 1 15 from ⟨by decide +kernel, rfl⟩) ?_
    refine J_dup rfl (show Dc Y_X12_undo 15 (.dup) 1 16 from ⟨by decide +kernel, rfl⟩) ?_
    refine J_getI (show Dc Y_X12_undo 16 (.getfield 183) 3 19 from ⟨by decide +kernel, rfl⟩) w_f_RX12_183 rfl (fun v3 => ?_)
    refine J_iconst (1 : Int32) rfl (show Dc Y_X12_undo 19 (.iconst 1) 1 20 from ⟨by decide +kernel, rfl⟩) ?_
    refine J_isub (show Dc Y_X12_undo 20 (.isub) 1 21 from ⟨by decide +kernel, rfl⟩) ?_
    refine J_putI (show Dc Y_X12_undo 21 (.putfield 183) 3 24 from ⟨by decide +kernel, rfl⟩) w_f_RX12_183 rfl rfl (fun g4 => ?_) (fun h => by cases h)
    refine J_iconst (0 : Int32) rfl (show Dc Y_X12_undo 24 (.iconst 0) 1 25 from ⟨by decide +kernel, rfl⟩) ?_
    refine J_istore_n [some (.ref x0), some (.int (0 : Int32))] (show Dc Y_X12_undo 25 (.istore_n 1) 1 26 from ⟨by decide +kernel, rfl⟩) rfl (by decide) rfl rfl ?_
    exact J_loop (X := X) (K := K) (uc := fun _ => 0) (us := fun _ => 0) (lf := fun s => [some (.ref x0), some (.int s.1)]) (gf := fun s => s.2) (fun s => j_X12_undo_26 (K := zKl Y_X12_undo X 26 (fun _ => 0) (fun _ => 0) (fun s => [some (.ref x0), some (.int s.1)]) (fun s => s.2) K) N x0 s.1 s.2 h0 (fun s h => h)) N ((0 : Int32), g4)
  · refine J_iconst (-1 : Int32) rfl (show Dc Y_X12_undo 12 (.iconst (-1)) 1 13 from ⟨by decide +kernel, rfl⟩) ?_
    exact J_reti (show Dc Y_X12_undo 13 (.ireturn) 1 14 from ⟨by decide +kernel, rfl⟩) rfl (h0 _ _) (by decide) (by decide)

theorem c_X12_undo {l : Launch} {D : ZD} {B0 : Nat} (N : Nat) (x0 : Nat) (g : ZS) : ∀ r, f_X12_undo N x0 g = some r → zCt l D B0 yX12_undo Y_X12_undo [.ref x0] g (some (.int r.1)) r.2 :=
  zCt_ofF (vo := fun r => some (.int r.1)) (so := fun r => r.2) (by decide +kernel) rfl (fun h => by cases h) rfl (Nat.le_of_ble_eq_true rfl) (fun X => j_X12_undo N x0 g (fun _ _ h => h))

theorem j_X11_tellWords_10 {X : ZX} (N : Nat) (x0 : Nat) (x1 : Int32)   (g : ZS) {K : ((Int32 × ZS) ⊕ (Int32 × ZS)) → Prop} (h0 : ∀ v g, K (.inr (v, g)) → xK X (some (.int v)) g) (hL10 : ∀ s, K (.inl s) → zG Y_X11_tellWords X 0 0 10 [some (.ref x0), some (.int s.1)] [] s.2) : J Y_X11_tellWords X 0 0 10 [some (.ref x0), some (.int x1)] [] g (f_X11_tellWords_10 N x0 x1 g) K := by
  unfold f_X11_tellWords_10
  refine J_iload_n rfl rfl (show Dc Y_X11_tellWords 10 (.iload_n 1) 1 11 from ⟨by decide +kernel, rfl⟩) ?_
  refine J_aload_n rfl rfl (show Dc Y_X11_tellWords 11 (.aload_n 0) 1 12 from ⟨by decide +kernel, rfl⟩) ?_
  refine J_getR (show Dc Y_X11_tellWords 12 (.getfield 79) 3 15 from ⟨by decide +kernel, rfl⟩) w_f_RX11_79 rfl (fun v1 => ?_)
  refine J_getI (show Dc Y_X11_tellWords 15 (.getfield 328) 3 18 from ⟨by decide +kernel, rfl⟩) w_f_RX11_328 rfl (fun v2 => ?_)
  refine J_icmp_ge (tg := 44) (show Dc Y_X11_tellWords 18 (.if_icmp .ge 26) 3 21 from ⟨by decide +kernel, rfl⟩) (by decide) (fun h => ?_) (fun h => ?_)
  · refine J_map (f := Sum.inr) (fun _ h => h) ?_
    refine J_aload_n rfl rfl (show Dc Y_X11_tellWords 44 (.aload_n 0) 1 45 from ⟨by decide +kernel, rfl⟩) ?_
    refine J_getR (show Dc Y_X11_tellWords 45 (.getfield 79) 3 48 from ⟨by decide +kernel, rfl⟩) w_f_RX11_79 rfl (fun v3 => ?_)
    refine J_getI (show Dc Y_X11_tellWords 48 (.getfield 328) 3 51 from ⟨by decide +kernel, rfl⟩) w_f_RX11_328 rfl (fun v4 => ?_)
    exact J_reti (show Dc Y_X11_tellWords 51 (.ireturn) 1 52 from ⟨by decide +kernel, rfl⟩) rfl (h0 _ _) (by decide) (by decide)
  · refine J_aload_n rfl rfl (show Dc Y_X11_tellWords 21 (.aload_n 0) 1 22 from ⟨by decide +kernel, rfl⟩) ?_
    refine J_getR (show Dc Y_X11_tellWords 22 (.getfield 19) 3 25 from ⟨by decide +kernel, rfl⟩) w_f_RX11_19 rfl (fun v5 => ?_)
    refine J_aload_n rfl rfl (show Dc Y_X11_tellWords 25 (.aload_n 0) 1 26 from ⟨by decide +kernel, rfl⟩) ?_
    refine J_getR (show Dc Y_X11_tellWords 26 (.getfield 79) 3 29 from ⟨by decide +kernel, rfl⟩) w_f_RX11_79 rfl (fun v6 => ?_)
    refine J_getR (show Dc Y_X11_tellWords 29 (.getfield 329) 3 32 from ⟨by decide +kernel, rfl⟩) w_f_RX11_329 rfl (fun v7 => ?_)
    refine J_iload_n rfl rfl (show Dc Y_X11_tellWords 32 (.iload_n 1) 1 33 from ⟨by decide +kernel, rfl⟩) ?_
    refine J_iald (show Dc Y_X11_tellWords 33 (.iaload) 1 34 from ⟨by decide +kernel, rfl⟩) (fun v8 => ?_)
    refine J_i2l (show Dc Y_X11_tellWords 34 (.i2l) 1 35 from ⟨by decide +kernel, rfl⟩) ?_
    refine J_callVv (fun r => r) (show Dc Y_X11_tellWords 35 (.invokevirtual 260) 3 38 from ⟨by decide +kernel, rfl⟩) w_m_RX11_260 w_in_X9_add rfl w_se_X9_add w_cw_X9_add (c_X9_add v5 v8.toInt64 g) rfl rfl (by decide) (Nat.le_of_ble_eq_true rfl) (by decide) (by decide) (fun g9 => ?_)
    refine J_iinc (1 : Int32) [some (.ref x0), some (.int (x1 + (1 : Int32)))] (show Dc Y_X11_tellWords 38 (.iinc 1 1) 3 41 from ⟨by decide +kernel, rfl⟩) rfl rfl (by decide) rfl rfl ?_
    refine J_goto (tg := 10) (show Dc Y_X11_tellWords 41 (.goto (-31)) 3 44 from ⟨by decide +kernel, rfl⟩) (by decide) ?_
    exact J_leaf (fun h => hL10 (x1 + (1 : Int32), g9) h)

theorem j_X11_tellWords {X : ZX} (N : Nat) (x0 : Nat)   (g : ZS) {K : (Int32 × ZS) → Prop} (h0 : ∀ v g, K (v, g) → xK X (some (.int v)) g) : J Y_X11_tellWords X 0 0 0 [some (.ref x0), none] [] g (f_X11_tellWords N x0 g) K := by
  unfold f_X11_tellWords
  refine J_aload_n rfl rfl (show Dc Y_X11_tellWords 0 (.aload_n 0) 1 1 from ⟨by decide +kernel, rfl⟩) ?_
  refine J_getR (show Dc Y_X11_tellWords 1 (.getfield 19) 3 4 from ⟨by decide +kernel, rfl⟩) w_f_RX11_19 rfl (fun v1 => ?_)
  refine J_iconst (0 : Int32) rfl (show Dc Y_X11_tellWords 4 (.iconst 0) 1 5 from ⟨by decide +kernel, rfl⟩) ?_
  refine J_putI (show Dc Y_X11_tellWords 5 (.putfield 254) 3 8 from ⟨by decide +kernel, rfl⟩) w_f_RX11_254 rfl rfl (fun g2 => ?_) (fun h => by cases h)
  refine J_iconst (0 : Int32) rfl (show Dc Y_X11_tellWords 8 (.iconst 0) 1 9 from ⟨by decide +kernel, rfl⟩) ?_
  refine J_istore_n [some (.ref x0), some (.int (0 : Int32))] (show Dc Y_X11_tellWords 9 (.istore_n 1) 1 10 from ⟨by decide +kernel, rfl⟩) rfl (by decide) rfl rfl ?_
  exact J_loop (X := X) (K := K) (uc := fun _ => 0) (us := fun _ => 0) (lf := fun s => [some (.ref x0), some (.int s.1)]) (gf := fun s => s.2) (fun s => j_X11_tellWords_10 (K := zKl Y_X11_tellWords X 10 (fun _ => 0) (fun _ => 0) (fun s => [some (.ref x0), some (.int s.1)]) (fun s => s.2) K) N x0 s.1 s.2 h0 (fun s h => h)) N ((0 : Int32), g2)

theorem c_X11_tellWords {l : Launch} {D : ZD} {B0 : Nat} (N : Nat) (x0 : Nat) (g : ZS) : ∀ r, f_X11_tellWords N x0 g = some r → zCt l D B0 yX11_tellWords Y_X11_tellWords [.ref x0] g (some (.int r.1)) r.2 :=
  zCt_ofF (vo := fun r => some (.int r.1)) (so := fun r => r.2) (by decide +kernel) rfl (fun h => by cases h) rfl (Nat.le_of_ble_eq_true rfl) (fun X => j_X11_tellWords N x0 g (fun _ _ h => h))

theorem j_X11_says {X : ZX} (N : Nat) (x0 : Nat) (x1 : Int32)   (g : ZS) {K : (Int32 × ZS) → Prop} (h0 : ∀ v g, K (v, g) → xK X (some (.int v)) g) : J Y_X11_says X 0 0 0 [some (.ref x0), some (.int x1)] [] g (f_X11_says N x0 x1 g) K := by
  unfold f_X11_says
  refine J_aload_n rfl rfl (show Dc Y_X11_says 0 (.aload_n 0) 1 1 from ⟨by decide +kernel, rfl⟩) ?_
  refine J_iload_n rfl rfl (show Dc Y_X11_says 1 (.iload_n 1) 1 2 from ⟨by decide +kernel, rfl⟩) ?_
  refine J_callVi (fun r => r) (fun _ => g) (show Dc Y_X11_says 2 (.invokevirtual 161) 3 5 from ⟨by decide +kernel, rfl⟩) w_m_RX11_161 w_in_X11_isParrot rfl w_se_X11_isParrot w_cw_X11_isParrot (c_X11_isParrot x0 x1 g) rfl rfl (by decide) (Nat.le_of_ble_eq_true rfl) (by decide) (by decide) (fun v1 => ?_)
  refine J_if_ne (tg := 10) (show Dc Y_X11_says 5 (.ifCond .ne 5) 3 8 from ⟨by decide +kernel, rfl⟩) (by decide) (fun h => ?_) (fun h => ?_)
  · refine J_aload_n rfl rfl (show Dc Y_X11_says 10 (.aload_n 0) 1 11 from ⟨by decide +kernel, rfl⟩) ?_
    refine J_getR (show Dc Y_X11_says 11 (.getfield 79) 3 14 from ⟨by decide +kernel, rfl⟩) w_f_RX11_79 rfl (fun v2 => ?_)
    refine J_aload_n rfl rfl (show Dc Y_X11_says 14 (.aload_n 0) 1 15 from ⟨by decide +kernel, rfl⟩) ?_
    refine J_getR (show Dc Y_X11_says 15 (.getfield 47) 3 18 from ⟨by decide +kernel, rfl⟩) w_f_RX11_47 rfl (fun v3 => ?_)
    refine J_getR (show Dc Y_X11_says 18 (.getfield 171) 3 21 from ⟨by decide +kernel, rfl⟩) w_f_RX11_171 rfl (fun v4 => ?_)
    refine J_iload_n rfl rfl (show Dc Y_X11_says 21 (.iload_n 1) 1 22 from ⟨by decide +kernel, rfl⟩) ?_
    refine J_aald (kd := 25) (by decide) (by decide) (show Dc Y_X11_says 22 (.aaload) 1 23 from ⟨by decide +kernel, rfl⟩) (fun v5 => ?_)
    refine J_aload_n rfl rfl (show Dc Y_X11_says 23 (.aload_n 0) 1 24 from ⟨by decide +kernel, rfl⟩) ?_
    refine J_getR (show Dc Y_X11_says 24 (.getfield 37) 3 27 from ⟨by decide +kernel, rfl⟩) w_f_RX11_37 rfl (fun v6 => ?_)
    refine J_aload_n rfl rfl (show Dc Y_X11_says 27 (.aload_n 0) 1 28 from ⟨by decide +kernel, rfl⟩) ?_
    refine J_getR (show Dc Y_X11_says 28 (.getfield 30) 3 31 from ⟨by decide +kernel, rfl⟩) w_f_RX11_30 rfl (fun v7 => ?_)
    refine J_callVv (fun r => r) (show Dc Y_X11_says 31 (.invokevirtual 289) 3 34 from ⟨by decide +kernel, rfl⟩) w_m_RX11_289 w_in_X10_follow rfl w_se_X10_follow w_cw_X10_follow (c_X10_follow N v2 v5 v6 v7 g) rfl rfl (by decide) (Nat.le_of_ble_eq_true rfl) (by decide) (by decide) (fun g8 => ?_)
    refine J_aload_n rfl rfl (show Dc Y_X11_says 34 (.aload_n 0) 1 35 from ⟨by decide +kernel, rfl⟩) ?_
    refine J_callVi (fun r => r.1) (fun r => r.2) (show Dc Y_X11_says 35 (.invokevirtual 325) 3 38 from ⟨by decide +kernel, rfl⟩) w_m_RX11_325 w_in_X11_tellWords rfl w_se_X11_tellWords w_cw_X11_tellWords (c_X11_tellWords N x0 g8) rfl rfl (by decide) (Nat.le_of_ble_eq_true rfl) (by decide) (by decide) (fun r9 => ?_)
    exact J_reti (show Dc Y_X11_says 38 (.ireturn) 1 39 from ⟨by decide +kernel, rfl⟩) rfl (h0 _ _) (by decide) (by decide)
  · refine J_iconst (-1 : Int32) rfl (show Dc Y_X11_says 8 (.iconst (-1)) 1 9 from ⟨by decide +kernel, rfl⟩) ?_
    exact J_reti (show Dc Y_X11_says 9 (.ireturn) 1 10 from ⟨by decide +kernel, rfl⟩) rfl (h0 _ _) (by decide) (by decide)

theorem c_X11_says {l : Launch} {D : ZD} {B0 : Nat} (N : Nat) (x0 : Nat) (x1 : Int32) (g : ZS) : ∀ r, f_X11_says N x0 x1 g = some r → zCt l D B0 yX11_says Y_X11_says [.ref x0, .int x1] g (some (.int r.1)) r.2 :=
  zCt_ofF (vo := fun r => some (.int r.1)) (so := fun r => r.2) (by decide +kernel) rfl (fun h => by cases h) rfl (Nat.le_of_ble_eq_true rfl) (fun X => j_X11_says N x0 x1 g (fun _ _ h => h))

theorem j_X12_tellList_7 {X : ZX} (N : Nat) (x0 : Nat) (x1 : Nat) (x2 : Int32) (x3 : Int32)   (g : ZS) {K : ((Int32 × ZS) ⊕ ZS) → Prop} (h0 : ∀ g, K (.inr g) → xK X none g) (hL7 : ∀ s, K (.inl s) → zG Y_X12_tellList X 0 0 7 [some (.ref x0), some (.ref x1), some (.int x2), some (.int s.1)] [] s.2) : J Y_X12_tellList X 0 0 7 [some (.ref x0), some (.ref x1), some (.int x2), some (.int x3)] [] g (f_X12_tellList_7 N x0 x1 x2 x3 g) K := by
  unfold f_X12_tellList_7
  refine J_iload_n rfl rfl (show Dc Y_X12_tellList 7 (.iload_n 3) 1 8 from ⟨by decide +kernel, rfl⟩) ?_
  refine J_iload_n rfl rfl (show Dc Y_X12_tellList 8 (.iload_n 2) 1 9 from ⟨by decide +kernel, rfl⟩) ?_
  refine J_icmp_ge (tg := 26) (show Dc Y_X12_tellList 9 (.if_icmp .ge 17) 3 12 from ⟨by decide +kernel, rfl⟩) (by decide) (fun h => ?_) (fun h => ?_)
  · refine J_map (f := Sum.inr) (fun _ h => h) ?_
    exact J_ret0 (show Dc Y_X12_tellList 26 (.return_) 1 27 from ⟨by decide +kernel, rfl⟩) rfl (h0 _) (by decide) (by decide)
  · refine J_aload_n rfl rfl (show Dc Y_X12_tellList 12 (.aload_n 0) 1 13 from ⟨by decide +kernel, rfl⟩) ?_
    refine J_aload_n rfl rfl (show Dc Y_X12_tellList 13 (.aload_n 1) 1 14 from ⟨by decide +kernel, rfl⟩) ?_
    refine J_iload_n rfl rfl (show Dc Y_X12_tellList 14 (.iload_n 3) 1 15 from ⟨by decide +kernel, rfl⟩) ?_
    refine J_iald (show Dc Y_X12_tellList 15 (.iaload) 1 16 from ⟨by decide +kernel, rfl⟩) (fun v1 => ?_)
    refine J_i2l (show Dc Y_X12_tellList 16 (.i2l) 1 17 from ⟨by decide +kernel, rfl⟩) ?_
    refine J_callVv (fun r => r) (show Dc Y_X12_tellList 17 (.invokevirtual 274) 3 20 from ⟨by decide +kernel, rfl⟩) w_m_RX12_274 w_in_X12_tell rfl w_se_X12_tell w_cw_X12_tell (c_X12_tell x0 v1.toInt64 g) rfl rfl (by decide) (Nat.le_of_ble_eq_true rfl) (by decide) (by decide) (fun g2 => ?_)
    refine J_iinc (1 : Int32) [some (.ref x0), some (.ref x1), some (.int x2), some (.int (x3 + (1 : Int32)))] (show Dc Y_X12_tellList 20 (.iinc 3 1) 3 23 from ⟨by decide +kernel, rfl⟩) rfl rfl (by decide) rfl rfl ?_
    refine J_goto (tg := 7) (show Dc Y_X12_tellList 23 (.goto (-16)) 3 26 from ⟨by decide +kernel, rfl⟩) (by decide) ?_
    exact J_leaf (fun h => hL7 (x3 + (1 : Int32), g2) h)

theorem j_X12_tellList {X : ZX} (N : Nat) (x0 : Nat) (x1 : Nat) (x2 : Int32)   (g : ZS) {K : ZS → Prop} (h0 : ∀ g, K g → xK X none g) : J Y_X12_tellList X 0 0 0 [some (.ref x0), some (.ref x1), some (.int x2), none] [] g (f_X12_tellList N x0 x1 x2 g) K := by
  unfold f_X12_tellList
  refine J_aload_n rfl rfl (show Dc Y_X12_tellList 0 (.aload_n 0) 1 1 from ⟨by decide +kernel, rfl⟩) ?_
  refine J_iconst (0 : Int32) rfl (show Dc Y_X12_tellList 1 (.iconst 0) 1 2 from ⟨by decide +kernel, rfl⟩) ?_
  refine J_putI (show Dc Y_X12_tellList 2 (.putfield 113) 3 5 from ⟨by decide +kernel, rfl⟩) w_f_RX12_113 rfl rfl (fun g1 => ?_) (fun h => by cases h)
  refine J_iconst (0 : Int32) rfl (show Dc Y_X12_tellList 5 (.iconst 0) 1 6 from ⟨by decide +kernel, rfl⟩) ?_
  refine J_istore_n [some (.ref x0), some (.ref x1), some (.int x2), some (.int (0 : Int32))] (show Dc Y_X12_tellList 6 (.istore_n 3) 1 7 from ⟨by decide +kernel, rfl⟩) rfl (by decide) rfl rfl ?_
  exact J_loop (X := X) (K := K) (uc := fun _ => 0) (us := fun _ => 0) (lf := fun s => [some (.ref x0), some (.ref x1), some (.int x2), some (.int s.1)]) (gf := fun s => s.2) (fun s => j_X12_tellList_7 (K := zKl Y_X12_tellList X 7 (fun _ => 0) (fun _ => 0) (fun s => [some (.ref x0), some (.ref x1), some (.int x2), some (.int s.1)]) (fun s => s.2) K) N x0 x1 x2 s.1 s.2 h0 (fun s h => h)) N ((0 : Int32), g1)

theorem c_X12_tellList {l : Launch} {D : ZD} {B0 : Nat} (N : Nat) (x0 : Nat) (x1 : Nat) (x2 : Int32) (g : ZS) : ∀ r, f_X12_tellList N x0 x1 x2 g = some r → zCt l D B0 yX12_tellList Y_X12_tellList [.ref x0, .ref x1, .int x2] g none r :=
  zCt_ofF (vo := fun _ => none) (so := fun r => r) (by decide +kernel) rfl (fun h => by cases h) rfl (Nat.le_of_ble_eq_true rfl) (fun X => j_X12_tellList N x0 x1 x2 g (fun _ h => h))

theorem j_X10_placeOf_2 {X : ZX} (N : Nat) (x0 : Nat) (x1 : Int32) (x2 : Int32)   (g : ZS) {K : ((Int32) ⊕ Int32) → Prop} (h0 : ∀ v, K (.inr v) → xK X (some (.int v)) g) (hL2 : ∀ s, K (.inl s) → zG Y_X10_placeOf X 0 0 2 [some (.ref x0), some (.int x1), some (.int s)] [] g) : J Y_X10_placeOf X 0 0 2 [some (.ref x0), some (.int x1), some (.int x2)] [] g (f_X10_placeOf_2 N x0 x1 x2 g) K := by
  unfold f_X10_placeOf_2
  refine J_iload_n rfl rfl (show Dc Y_X10_placeOf 2 (.iload_n 2) 1 3 from ⟨by decide +kernel, rfl⟩) ?_
  refine J_aload_n rfl rfl (show Dc Y_X10_placeOf 3 (.aload_n 0) 1 4 from ⟨by decide +kernel, rfl⟩) ?_
  refine J_getI (show Dc Y_X10_placeOf 4 (.getfield 23) 3 7 from ⟨by decide +kernel, rfl⟩) w_f_RX10_23 rfl (fun v1 => ?_)
  refine J_icmp_ge (tg := 28) (show Dc Y_X10_placeOf 7 (.if_icmp .ge 21) 3 10 from ⟨by decide +kernel, rfl⟩) (by decide) (fun h => ?_) (fun h => ?_)
  · refine J_map (f := Sum.inr) (fun _ h => h) ?_
    refine J_iconst (-1 : Int32) rfl (show Dc Y_X10_placeOf 28 (.iconst (-1)) 1 29 from ⟨by decide +kernel, rfl⟩) ?_
    exact J_reti (show Dc Y_X10_placeOf 29 (.ireturn) 1 30 from ⟨by decide +kernel, rfl⟩) rfl (h0 _) (by decide) (by decide)
  · refine J_aload_n rfl rfl (show Dc Y_X10_placeOf 10 (.aload_n 0) 1 11 from ⟨by decide +kernel, rfl⟩) ?_
    refine J_getR (show Dc Y_X10_placeOf 11 (.getfield 9) 3 14 from ⟨by decide +kernel, rfl⟩) w_f_RX10_9 rfl (fun v2 => ?_)
    refine J_iload_n rfl rfl (show Dc Y_X10_placeOf 14 (.iload_n 2) 1 15 from ⟨by decide +kernel, rfl⟩) ?_
    refine J_iald (show Dc Y_X10_placeOf 15 (.iaload) 1 16 from ⟨by decide +kernel, rfl⟩) (fun v3 => ?_)
    refine J_iload_n rfl rfl (show Dc Y_X10_placeOf 16 (.iload_n 1) 1 17 from ⟨by decide +kernel, rfl⟩) ?_
    refine J_icmp_ne (tg := 22) (show Dc Y_X10_placeOf 17 (.if_icmp .ne 5) 3 20 from ⟨by decide +kernel, rfl⟩) (by decide) (fun h => ?_) (fun h => ?_)
    · refine J_iinc (1 : Int32) [some (.ref x0), some (.int x1), some (.int (x2 + (1 : Int32)))] (show Dc Y_X10_placeOf 22 (.iinc 2 1) 3 25 from ⟨by decide +kernel, rfl⟩) rfl rfl (by decide) rfl rfl ?_
      refine J_goto (tg := 2) (show Dc Y_X10_placeOf 25 (.goto (-23)) 3 28 from ⟨by decide +kernel, rfl⟩) (by decide) ?_
      exact J_leaf (fun h => hL2 (x2 + (1 : Int32)) h)
    · refine J_map (f := Sum.inr) (fun _ h => h) ?_
      refine J_iload_n rfl rfl (show Dc Y_X10_placeOf 20 (.iload_n 2) 1 21 from ⟨by decide +kernel, rfl⟩) ?_
      exact J_reti (show Dc Y_X10_placeOf 21 (.ireturn) 1 22 from ⟨by decide +kernel, rfl⟩) rfl (h0 _) (by decide) (by decide)

theorem j_X10_placeOf {X : ZX} (N : Nat) (x0 : Nat) (x1 : Int32)   (g : ZS) {K : Int32 → Prop} (h0 : ∀ v, K v → xK X (some (.int v)) g) : J Y_X10_placeOf X 0 0 0 [some (.ref x0), some (.int x1), none] [] g (f_X10_placeOf N x0 x1 g) K := by
  unfold f_X10_placeOf
  refine J_iconst (0 : Int32) rfl (show Dc Y_X10_placeOf 0 (.iconst 0) 1 1 from ⟨by decide +kernel, rfl⟩) ?_
  refine J_istore_n [some (.ref x0), some (.int x1), some (.int (0 : Int32))] (show Dc Y_X10_placeOf 1 (.istore_n 2) 1 2 from ⟨by decide +kernel, rfl⟩) rfl (by decide) rfl rfl ?_
  exact J_loop (X := X) (K := K) (uc := fun _ => 0) (us := fun _ => 0) (lf := fun s => [some (.ref x0), some (.int x1), some (.int s)]) (gf := fun s => g) (fun s => j_X10_placeOf_2 (K := zKl Y_X10_placeOf X 2 (fun _ => 0) (fun _ => 0) (fun s => [some (.ref x0), some (.int x1), some (.int s)]) (fun s => g) K) N x0 x1 s g h0 (fun s h => h)) N (0 : Int32)

theorem c_X10_placeOf {l : Launch} {D : ZD} {B0 : Nat} (N : Nat) (x0 : Nat) (x1 : Int32) (g : ZS) : ∀ r, f_X10_placeOf N x0 x1 g = some r → zCt l D B0 yX10_placeOf Y_X10_placeOf [.ref x0, .int x1] g (some (.int r)) g :=
  zCt_ofF (vo := fun r => some (.int r)) (so := fun _ => g) (by decide +kernel) rfl (fun h => by cases h) rfl (Nat.le_of_ble_eq_true rfl) (fun X => j_X10_placeOf N x0 x1 g (fun _ h => h))

theorem j_X11_place_15 {X : ZX} (N : Nat)    (g : ZS) {K : (Int32 × ZS) → Prop} (h0 : ∀ v g, K (v, g) → xK X (some (.int v)) g) : J Y_X11_place X 0 0 15 [none, none, none, none] [] g (f_X11_place_15 N g) K := by
  unfold f_X11_place_15
  refine J_iconst (-1 : Int32) rfl (show Dc Y_X11_place 15 (.iconst (-1)) 1 16 from ⟨by decide +kernel, rfl⟩) ?_
  exact J_reti (show Dc Y_X11_place 16 (.ireturn) 1 17 from ⟨by decide +kernel, rfl⟩) rfl (h0 _ _) (by decide) (by decide)

theorem j_X11_place_61 {X : ZX} (N : Nat)  (s0 : Int32)  (g : ZS) {K : (Int32 × ZS) → Prop} (h0 : ∀ v g, K (v, g) → xK X (some (.int v)) g) : J Y_X11_place X 0 0 61 [none, none, none, none] [.int s0] g (f_X11_place_61 N s0 g) K := by
  unfold f_X11_place_61
  exact J_reti (show Dc Y_X11_place 61 (.ireturn) 1 62 from ⟨by decide +kernel, rfl⟩) rfl (h0 _ _) (by decide) (by decide)

theorem j_X11_place {X : ZX} (N : Nat) (x0 : Nat) (x1 : Int32) (x2 : Int32)   (g : ZS) {K : (Int32 × ZS) → Prop} (h0 : ∀ v g, K (v, g) → xK X (some (.int v)) g) : J Y_X11_place X 0 0 0 [some (.ref x0), some (.int x1), some (.int x2), none] [] g (f_X11_place N x0 x1 x2 g) K := by
  unfold f_X11_place
  refine J_aload_n rfl rfl (show Dc Y_X11_place 0 (.aload_n 0) 1 1 from ⟨by decide +kernel, rfl⟩) ?_
  refine J_iload_n rfl rfl (show Dc Y_X11_place 1 (.iload_n 1) 1 2 from ⟨by decide +kernel, rfl⟩) ?_
  refine J_callVi (fun r => r) (fun _ => g) (show Dc Y_X11_place 2 (.invokevirtual 161) 3 5 from ⟨by decide +kernel, rfl⟩) w_m_RX11_161 w_in_X11_isParrot rfl w_se_X11_isParrot w_cw_X11_isParrot (c_X11_isParrot x0 x1 g) rfl rfl (by decide) (Nat.le_of_ble_eq_true rfl) (by decide) (by decide) (fun v1 => ?_)
  refine J_if_eq (tg := 15) (show Dc Y_X11_place 5 (.ifCond .eq 10) 3 8 from ⟨by decide +kernel, rfl⟩) (by decide) (fun h => ?_) (fun h => ?_)
  · refine J_mask [false, false, false, false] ?_
    exact j_X11_place_15 N g h0
  · refine J_iload_n rfl rfl (show Dc Y_X11_place 8 (.iload_n 2) 1 9 from ⟨by decide +kernel, rfl⟩) ?_
    refine J_callSi (fun r => r) (fun _ => g) (show Dc Y_X11_place 9 (.invokestatic 196) 3 12 from ⟨by decide +kernel, rfl⟩) w_m_RX11_196 w_st_X11_isWord w_cw_X11_isWord (c_X11_isWord x2 g) rfl rfl (by decide) (Nat.le_of_ble_eq_true rfl) (by decide) (by decide) (fun v2 => ?_)
    refine J_if_ne (tg := 17) (show Dc Y_X11_place 12 (.ifCond .ne 5) 3 15 from ⟨by decide +kernel, rfl⟩) (by decide) (fun h => ?_) (fun h => ?_)
    · refine J_aload_n rfl rfl (show Dc Y_X11_place 17 (.aload_n 0) 1 18 from ⟨by decide +kernel, rfl⟩) ?_
      refine J_getR (show Dc Y_X11_place 18 (.getfield 79) 3 21 from ⟨by decide +kernel, rfl⟩) w_f_RX11_79 rfl (fun v3 => ?_)
      refine J_aload_n rfl rfl (show Dc Y_X11_place 21 (.aload_n 0) 1 22 from ⟨by decide +kernel, rfl⟩) ?_
      refine J_getR (show Dc Y_X11_place 22 (.getfield 47) 3 25 from ⟨by decide +kernel, rfl⟩) w_f_RX11_47 rfl (fun v4 => ?_)
      refine J_getR (show Dc Y_X11_place 25 (.getfield 171) 3 28 from ⟨by decide +kernel, rfl⟩) w_f_RX11_171 rfl (fun v5 => ?_)
      refine J_iload_n rfl rfl (show Dc Y_X11_place 28 (.iload_n 1) 1 29 from ⟨by decide +kernel, rfl⟩) ?_
      refine J_aald (kd := 25) (by decide) (by decide) (show Dc Y_X11_place 29 (.aaload) 1 30 from ⟨by decide +kernel, rfl⟩) (fun v6 => ?_)
      refine J_aload_n rfl rfl (show Dc Y_X11_place 30 (.aload_n 0) 1 31 from ⟨by decide +kernel, rfl⟩) ?_
      refine J_getR (show Dc Y_X11_place 31 (.getfield 37) 3 34 from ⟨by decide +kernel, rfl⟩) w_f_RX11_37 rfl (fun v7 => ?_)
      refine J_aload_n rfl rfl (show Dc Y_X11_place 34 (.aload_n 0) 1 35 from ⟨by decide +kernel, rfl⟩) ?_
      refine J_getR (show Dc Y_X11_place 35 (.getfield 30) 3 38 from ⟨by decide +kernel, rfl⟩) w_f_RX11_30 rfl (fun v8 => ?_)
      refine J_callVv (fun r => r) (show Dc Y_X11_place 38 (.invokevirtual 289) 3 41 from ⟨by decide +kernel, rfl⟩) w_m_RX11_289 w_in_X10_follow rfl w_se_X10_follow w_cw_X10_follow (c_X10_follow N v3 v6 v7 v8 g) rfl rfl (by decide) (Nat.le_of_ble_eq_true rfl) (by decide) (by decide) (fun g9 => ?_)
      refine J_aload_n rfl rfl (show Dc Y_X11_place 41 (.aload_n 0) 1 42 from ⟨by decide +kernel, rfl⟩) ?_
      refine J_getR (show Dc Y_X11_place 42 (.getfield 79) 3 45 from ⟨by decide +kernel, rfl⟩) w_f_RX11_79 rfl (fun v10 => ?_)
      refine J_iload_n rfl rfl (show Dc Y_X11_place 45 (.iload_n 2) 1 46 from ⟨by decide +kernel, rfl⟩) ?_
      refine J_callVi (fun r => r) (fun _ => g9) (show Dc Y_X11_place 46 (.invokevirtual 332) 3 49 from ⟨by decide +kernel, rfl⟩) w_m_RX11_332 w_in_X10_placeOf rfl w_se_X10_placeOf w_cw_X10_placeOf (c_X10_placeOf N v10 x2 g9) rfl rfl (by decide) (Nat.le_of_ble_eq_true rfl) (by decide) (by decide) (fun v11 => ?_)
      refine J_istore_n [some (.ref x0), some (.int x1), some (.int x2), some (.int v11)] (show Dc Y_X11_place 49 (.istore_n 3) 1 50 from ⟨by decide +kernel, rfl⟩) rfl (by decide) rfl rfl ?_
      refine J_iload_n rfl rfl (show Dc Y_X11_place 50 (.iload_n 3) 1 51 from ⟨by decide +kernel, rfl⟩) ?_
      refine J_iconst (-1 : Int32) rfl (show Dc Y_X11_place 51 (.iconst (-1)) 1 52 from ⟨by decide +kernel, rfl⟩) ?_
      refine J_icmp_ne (tg := 60) (show Dc Y_X11_place 52 (.if_icmp .ne 8) 3 55 from ⟨by decide +kernel, rfl⟩) (by decide) (fun h => ?_) (fun h => ?_)
      · refine J_iload_n rfl rfl (show Dc Y_X11_place 60 (.iload_n 3) 1 61 from ⟨by decide +kernel, rfl⟩) ?_
        refine J_mask [false, false, false, false] ?_
        exact j_X11_place_61 N v11 g9 h0
      · refine J_bipush (-2 : Int32) rfl (show Dc Y_X11_place 55 (.bipush (-2)) 2 57 from ⟨by decide +kernel, rfl⟩) ?_
        refine J_goto (tg := 61) (show Dc Y_X11_place 57 (.goto 4) 3 60 from ⟨by decide +kernel, rfl⟩) (by decide) ?_
        refine J_mask [false, false, false, false] ?_
        exact j_X11_place_61 N (-2 : Int32) g9 h0
    · refine J_mask [false, false, false, false] ?_
      exact j_X11_place_15 N g h0

theorem c_X11_place {l : Launch} {D : ZD} {B0 : Nat} (N : Nat) (x0 : Nat) (x1 : Int32) (x2 : Int32) (g : ZS) : ∀ r, f_X11_place N x0 x1 x2 g = some r → zCt l D B0 yX11_place Y_X11_place [.ref x0, .int x1, .int x2] g (some (.int r.1)) r.2 :=
  zCt_ofF (vo := fun r => some (.int r.1)) (so := fun r => r.2) (by decide +kernel) rfl (fun h => by cases h) rfl (Nat.le_of_ble_eq_true rfl) (fun X => j_X11_place N x0 x1 x2 g (fun _ _ h => h))

theorem j_X11_soonest_94 {X : ZX} (N : Nat) (x0 : Nat) (x1 : Int32) (x2 : Int32) (x3 : Int32) (x4 : Int32) (x5 : Int32)   (g : ZS) {K : ((Int32 × Int32 × Int32 × Int32 × ZS) ⊕ (Int32 × ZS)) → Prop} (h0 : ∀ v g, K (.inr (v, g)) → xK X (some (.int v)) g) (hL20 : ∀ s, K (.inl s) → zG Y_X11_soonest X 0 0 20 [some (.ref x0), some (.int x1), some (.int s.1), some (.int s.2.1), some (.int s.2.2.1), some (.int s.2.2.2.1), none] [] s.2.2.2.2) : J Y_X11_soonest X 0 0 94 [some (.ref x0), some (.int x1), some (.int x2), some (.int x3), some (.int x4), some (.int x5), none] [] g (f_X11_soonest_94 N x0 x1 x2 x3 x4 x5 g) K := by
  unfold f_X11_soonest_94
  refine J_iinc (1 : Int32) [some (.ref x0), some (.int x1), some (.int x2), some (.int x3), some (.int x4), some (.int (x5 + (1 : Int32))), none] (show Dc Y_X11_soonest 94 (.iinc 5 1) 3 97 from ⟨by decide +kernel, rfl⟩) rfl rfl (by decide) rfl rfl ?_
  refine J_goto (tg := 20) (show Dc Y_X11_soonest 97 (.goto (-77)) 3 100 from ⟨by decide +kernel, rfl⟩) (by decide) ?_
  exact J_leaf (fun h => hL20 (x2, x3, x4, x5 + (1 : Int32), g) h)

theorem j_X11_soonest_76 {X : ZX} (N : Nat) (x0 : Nat) (x1 : Int32) (x2 : Int32) (x3 : Int32) (x4 : Int32) (x5 : Int32) (x6 : Int32)   (g : ZS) {K : ((Int32 × Int32 × Int32 × Int32 × ZS) ⊕ (Int32 × ZS)) → Prop} (h0 : ∀ v g, K (.inr (v, g)) → xK X (some (.int v)) g) (hL20 : ∀ s, K (.inl s) → zG Y_X11_soonest X 0 0 20 [some (.ref x0), some (.int x1), some (.int s.1), some (.int s.2.1), some (.int s.2.2.1), some (.int s.2.2.2.1), none] [] s.2.2.2.2) : J Y_X11_soonest X 0 0 76 [some (.ref x0), some (.int x1), some (.int x2), some (.int x3), some (.int x4), some (.int x5), some (.int x6)] [] g (f_X11_soonest_76 N x0 x1 x2 x3 x4 x5 x6 g) K := by
  unfold f_X11_soonest_76
  refine J_iload rfl (show Dc Y_X11_soonest 76 (.iload 6) 2 78 from ⟨by decide +kernel, rfl⟩) ?_
  refine J_iconst (-1 : Int32) rfl (show Dc Y_X11_soonest 78 (.iconst (-1)) 1 79 from ⟨by decide +kernel, rfl⟩) ?_
  refine J_icmp_eq (tg := 94) (show Dc Y_X11_soonest 79 (.if_icmp .eq 15) 3 82 from ⟨by decide +kernel, rfl⟩) (by decide) (fun h => ?_) (fun h => ?_)
  · refine J_mask [true, true, true, true, true, true, false] ?_
    exact j_X11_soonest_94 N x0 x1 x2 x3 x4 x5 g h0 hL20
  · refine J_iload rfl (show Dc Y_X11_soonest 82 (.iload 6) 2 84 from ⟨by decide +kernel, rfl⟩) ?_
    refine J_iload_n rfl rfl (show Dc Y_X11_soonest 84 (.iload_n 3) 1 85 from ⟨by decide +kernel, rfl⟩) ?_
    refine J_icmp_ge (tg := 94) (show Dc Y_X11_soonest 85 (.if_icmp .ge 9) 3 88 from ⟨by decide +kernel, rfl⟩) (by decide) (fun h => ?_) (fun h => ?_)
    · refine J_mask [true, true, true, true, true, true, false] ?_
      exact j_X11_soonest_94 N x0 x1 x2 x3 x4 x5 g h0 hL20
    · refine J_iload rfl (show Dc Y_X11_soonest 88 (.iload 6) 2 90 from ⟨by decide +kernel, rfl⟩) ?_
      refine J_istore_n [some (.ref x0), some (.int x1), some (.int x2), some (.int x6), some (.int x4), some (.int x5), some (.int x6)] (show Dc Y_X11_soonest 90 (.istore_n 3) 1 91 from ⟨by decide +kernel, rfl⟩) rfl (by decide) rfl rfl ?_
      refine J_iload rfl (show Dc Y_X11_soonest 91 (.iload 5) 2 93 from ⟨by decide +kernel, rfl⟩) ?_
      refine J_istore_n [some (.ref x0), some (.int x1), some (.int x5), some (.int x6), some (.int x4), some (.int x5), some (.int x6)] (show Dc Y_X11_soonest 93 (.istore_n 2) 1 94 from ⟨by decide +kernel, rfl⟩) rfl (by decide) rfl rfl ?_
      refine J_mask [true, true, true, true, true, true, false] ?_
      exact j_X11_soonest_94 N x0 x1 x5 x6 x4 x5 g h0 hL20

theorem j_X11_soonest_20 {X : ZX} (N : Nat) (x0 : Nat) (x1 : Int32) (x2 : Int32) (x3 : Int32) (x4 : Int32) (x5 : Int32)   (g : ZS) {K : ((Int32 × Int32 × Int32 × Int32 × ZS) ⊕ (Int32 × ZS)) → Prop} (h0 : ∀ v g, K (.inr (v, g)) → xK X (some (.int v)) g) (hL20 : ∀ s, K (.inl s) → zG Y_X11_soonest X 0 0 20 [some (.ref x0), some (.int x1), some (.int s.1), some (.int s.2.1), some (.int s.2.2.1), some (.int s.2.2.2.1), none] [] s.2.2.2.2) : J Y_X11_soonest X 0 0 20 [some (.ref x0), some (.int x1), some (.int x2), some (.int x3), some (.int x4), some (.int x5), none] [] g (f_X11_soonest_20 N x0 x1 x2 x3 x4 x5 g) K := by
  unfold f_X11_soonest_20
  refine J_iload rfl (show Dc Y_X11_soonest 20 (.iload 5) 2 22 from ⟨by decide +kernel, rfl⟩) ?_
  refine J_aload_n rfl rfl (show Dc Y_X11_soonest 22 (.aload_n 0) 1 23 from ⟨by decide +kernel, rfl⟩) ?_
  refine J_getR (show Dc Y_X11_soonest 23 (.getfield 47) 3 26 from ⟨by decide +kernel, rfl⟩) w_f_RX11_47 rfl (fun v1 => ?_)
  refine J_getI (show Dc Y_X11_soonest 26 (.getfield 146) 3 29 from ⟨by decide +kernel, rfl⟩) w_f_RX11_146 rfl (fun v2 => ?_)
  refine J_icmp_ge (tg := 100) (show Dc Y_X11_soonest 29 (.if_icmp .ge 71) 3 32 from ⟨by decide +kernel, rfl⟩) (by decide) (fun h => ?_) (fun h => ?_)
  · refine J_map (f := Sum.inr) (fun _ h => h) ?_
    refine J_iload_n rfl rfl (show Dc Y_X11_soonest 100 (.iload_n 2) 1 101 from ⟨by decide +kernel, rfl⟩) ?_
    refine J_iconst (-1 : Int32) rfl (show Dc Y_X11_soonest 101 (.iconst (-1)) 1 102 from ⟨by decide +kernel, rfl⟩) ?_
    refine J_icmp_ne (tg := 108) (show Dc Y_X11_soonest 102 (.if_icmp .ne 6) 3 105 from ⟨by decide +kernel, rfl⟩) (by decide) (fun h => ?_) (fun h => ?_)
    · refine J_aload_n rfl rfl (show Dc Y_X11_soonest 108 (.aload_n 0) 1 109 from ⟨by decide +kernel, rfl⟩) ?_
      refine J_getR (show Dc Y_X11_soonest 109 (.getfield 19) 3 112 from ⟨by decide +kernel, rfl⟩) w_f_RX11_19 rfl (fun v3 => ?_)
      refine J_iload_n rfl rfl (show Dc Y_X11_soonest 112 (.iload_n 3) 1 113 from ⟨by decide +kernel, rfl⟩) ?_
      refine J_i2l (show Dc Y_X11_soonest 113 (.i2l) 1 114 from ⟨by decide +kernel, rfl⟩) ?_
      refine J_iload rfl (show Dc Y_X11_soonest 114 (.iload 4) 2 116 from ⟨by decide +kernel, rfl⟩) ?_
      refine J_i2l (show Dc Y_X11_soonest 116 (.i2l) 1 117 from ⟨by decide +kernel, rfl⟩) ?_
      refine J_callVv (fun r => r) (show Dc Y_X11_soonest 117 (.invokevirtual 317) 3 120 from ⟨by decide +kernel, rfl⟩) w_m_RX11_317 w_in_X9_pair rfl w_se_X9_pair w_cw_X9_pair (c_X9_pair v3 x3.toInt64 x4.toInt64 g) rfl rfl (by decide) (Nat.le_of_ble_eq_true rfl) (by decide) (by decide) (fun g4 => ?_)
      refine J_iload_n rfl rfl (show Dc Y_X11_soonest 120 (.iload_n 2) 1 121 from ⟨by decide +kernel, rfl⟩) ?_
      exact J_reti (show Dc Y_X11_soonest 121 (.ireturn) 1 122 from ⟨by decide +kernel, rfl⟩) rfl (h0 _ _) (by decide) (by decide)
    · refine J_bipush (-2 : Int32) rfl (show Dc Y_X11_soonest 105 (.bipush (-2)) 2 107 from ⟨by decide +kernel, rfl⟩) ?_
      exact J_reti (show Dc Y_X11_soonest 107 (.ireturn) 1 108 from ⟨by decide +kernel, rfl⟩) rfl (h0 _ _) (by decide) (by decide)
  · refine J_aload_n rfl rfl (show Dc Y_X11_soonest 32 (.aload_n 0) 1 33 from ⟨by decide +kernel, rfl⟩) ?_
    refine J_getR (show Dc Y_X11_soonest 33 (.getfield 79) 3 36 from ⟨by decide +kernel, rfl⟩) w_f_RX11_79 rfl (fun v5 => ?_)
    refine J_aload_n rfl rfl (show Dc Y_X11_soonest 36 (.aload_n 0) 1 37 from ⟨by decide +kernel, rfl⟩) ?_
    refine J_getR (show Dc Y_X11_soonest 37 (.getfield 47) 3 40 from ⟨by decide +kernel, rfl⟩) w_f_RX11_47 rfl (fun v6 => ?_)
    refine J_getR (show Dc Y_X11_soonest 40 (.getfield 171) 3 43 from ⟨by decide +kernel, rfl⟩) w_f_RX11_171 rfl (fun v7 => ?_)
    refine J_iload rfl (show Dc Y_X11_soonest 43 (.iload 5) 2 45 from ⟨by decide +kernel, rfl⟩) ?_
    refine J_aald (kd := 25) (by decide) (by decide) (show Dc Y_X11_soonest 45 (.aaload) 1 46 from ⟨by decide +kernel, rfl⟩) (fun v8 => ?_)
    refine J_aload_n rfl rfl (show Dc Y_X11_soonest 46 (.aload_n 0) 1 47 from ⟨by decide +kernel, rfl⟩) ?_
    refine J_getR (show Dc Y_X11_soonest 47 (.getfield 37) 3 50 from ⟨by decide +kernel, rfl⟩) w_f_RX11_37 rfl (fun v9 => ?_)
    refine J_aload_n rfl rfl (show Dc Y_X11_soonest 50 (.aload_n 0) 1 51 from ⟨by decide +kernel, rfl⟩) ?_
    refine J_getR (show Dc Y_X11_soonest 51 (.getfield 30) 3 54 from ⟨by decide +kernel, rfl⟩) w_f_RX11_30 rfl (fun v10 => ?_)
    refine J_callVv (fun r => r) (show Dc Y_X11_soonest 54 (.invokevirtual 289) 3 57 from ⟨by decide +kernel, rfl⟩) w_m_RX11_289 w_in_X10_follow rfl w_se_X10_follow w_cw_X10_follow (c_X10_follow N v5 v8 v9 v10 g) rfl rfl (by decide) (Nat.le_of_ble_eq_true rfl) (by decide) (by decide) (fun g11 => ?_)
    refine J_aload_n rfl rfl (show Dc Y_X11_soonest 57 (.aload_n 0) 1 58 from ⟨by decide +kernel, rfl⟩) ?_
    refine J_getR (show Dc Y_X11_soonest 58 (.getfield 79) 3 61 from ⟨by decide +kernel, rfl⟩) w_f_RX11_79 rfl (fun v12 => ?_)
    refine J_iload_n rfl rfl (show Dc Y_X11_soonest 61 (.iload_n 1) 1 62 from ⟨by decide +kernel, rfl⟩) ?_
    refine J_callVi (fun r => r) (fun _ => g11) (show Dc Y_X11_soonest 62 (.invokevirtual 332) 3 65 from ⟨by decide +kernel, rfl⟩) w_m_RX11_332 w_in_X10_placeOf rfl w_se_X10_placeOf w_cw_X10_placeOf (c_X10_placeOf N v12 x1 g11) rfl rfl (by decide) (Nat.le_of_ble_eq_true rfl) (by decide) (by decide) (fun v13 => ?_)
    refine J_istore [some (.ref x0), some (.int x1), some (.int x2), some (.int x3), some (.int x4), some (.int x5), some (.int v13)] (show Dc Y_X11_soonest 65 (.istore 6) 2 67 from ⟨by decide +kernel, rfl⟩) (by decide) rfl rfl ?_
    refine J_iload rfl (show Dc Y_X11_soonest 67 (.iload 6) 2 69 from ⟨by decide +kernel, rfl⟩) ?_
    refine J_iconst (-1 : Int32) rfl (show Dc Y_X11_soonest 69 (.iconst (-1)) 1 70 from ⟨by decide +kernel, rfl⟩) ?_
    refine J_icmp_eq (tg := 76) (show Dc Y_X11_soonest 70 (.if_icmp .eq 6) 3 73 from ⟨by decide +kernel, rfl⟩) (by decide) (fun h => ?_) (fun h => ?_)
    · exact j_X11_soonest_76 N x0 x1 x2 x3 x4 x5 v13 g11 h0 hL20
    · refine J_iinc (1 : Int32) [some (.ref x0), some (.int x1), some (.int x2), some (.int x3), some (.int (x4 + (1 : Int32))), some (.int x5), some (.int v13)] (show Dc Y_X11_soonest 73 (.iinc 4 1) 3 76 from ⟨by decide +kernel, rfl⟩) rfl rfl (by decide) rfl rfl ?_
      exact j_X11_soonest_76 N x0 x1 x2 x3 (x4 + (1 : Int32)) x5 v13 g11 h0 hL20

theorem j_X11_soonest {X : ZX} (N : Nat) (x0 : Nat) (x1 : Int32)   (g : ZS) {K : (Int32 × ZS) → Prop} (h0 : ∀ v g, K (v, g) → xK X (some (.int v)) g) : J Y_X11_soonest X 0 0 0 [some (.ref x0), some (.int x1), none, none, none, none, none] [] g (f_X11_soonest N x0 x1 g) K := by
  unfold f_X11_soonest
  refine J_iload_n rfl rfl (show Dc Y_X11_soonest 0 (.iload_n 1) 1 1 from ⟨by decide +kernel, rfl⟩) ?_
  refine J_callSi (fun r => r) (fun _ => g) (show Dc Y_X11_soonest 1 (.invokestatic 196) 3 4 from ⟨by decide +kernel, rfl⟩) w_m_RX11_196 w_st_X11_isWord w_cw_X11_isWord (c_X11_isWord x1 g) rfl rfl (by decide) (Nat.le_of_ble_eq_true rfl) (by decide) (by decide) (fun v1 => ?_)
  refine J_if_ne (tg := 9) (show Dc Y_X11_soonest 4 (.ifCond .ne 5) 3 7 from ⟨by decide +kernel, rfl⟩) (by decide) (fun h => ?_) (fun h => ?_)
  · refine J_iconst (-1 : Int32) rfl (show Dc Y_X11_soonest 9 (.iconst (-1)) 1 10 from ⟨by decide +kernel, rfl⟩) ?_
    refine J_istore_n [some (.ref x0), some (.int x1), some (.int (-1 : Int32)), none, none, none, none] (show Dc Y_X11_soonest 10 (.istore_n 2) 1 11 from ⟨by decide +kernel, rfl⟩) rfl (by decide) rfl rfl ?_
    refine J_bipush (8 : Int32) rfl (show Dc Y_X11_soonest 11 (.bipush 8) 2 13 from ⟨by decide +kernel, rfl⟩) ?_
    refine J_istore_n [some (.ref x0), some (.int x1), some (.int (-1 : Int32)), some (.int (8 : Int32)), none, none, none] (show Dc Y_X11_soonest 13 (.istore_n 3) 1 14 from ⟨by decide +kernel, rfl⟩) rfl (by decide) rfl rfl ?_
    refine J_iconst (0 : Int32) rfl (show Dc Y_X11_soonest 14 (.iconst 0) 1 15 from ⟨by decide +kernel, rfl⟩) ?_
    refine J_istore [some (.ref x0), some (.int x1), some (.int (-1 : Int32)), some (.int (8 : Int32)), some (.int (0 : Int32)), none, none] (show Dc Y_X11_soonest 15 (.istore 4) 2 17 from ⟨by decide +kernel, rfl⟩) (by decide) rfl rfl ?_
    refine J_iconst (0 : Int32) rfl (show Dc Y_X11_soonest 17 (.iconst 0) 1 18 from ⟨by decide +kernel, rfl⟩) ?_
    refine J_istore [some (.ref x0), some (.int x1), some (.int (-1 : Int32)), some (.int (8 : Int32)), some (.int (0 : Int32)), some (.int (0 : Int32)), none] (show Dc Y_X11_soonest 18 (.istore 5) 2 20 from ⟨by decide +kernel, rfl⟩) (by decide) rfl rfl ?_
    exact J_loop (X := X) (K := K) (uc := fun _ => 0) (us := fun _ => 0) (lf := fun s => [some (.ref x0), some (.int x1), some (.int s.1), some (.int s.2.1), some (.int s.2.2.1), some (.int s.2.2.2.1), none]) (gf := fun s => s.2.2.2.2) (fun s => j_X11_soonest_20 (K := zKl Y_X11_soonest X 20 (fun _ => 0) (fun _ => 0) (fun s => [some (.ref x0), some (.int x1), some (.int s.1), some (.int s.2.1), some (.int s.2.2.1), some (.int s.2.2.2.1), none]) (fun s => s.2.2.2.2) K) N x0 x1 s.1 s.2.1 s.2.2.1 s.2.2.2.1 s.2.2.2.2 h0 (fun s h => h)) N ((-1 : Int32), (8 : Int32), (0 : Int32), (0 : Int32), g)
  · refine J_iconst (-1 : Int32) rfl (show Dc Y_X11_soonest 7 (.iconst (-1)) 1 8 from ⟨by decide +kernel, rfl⟩) ?_
    exact J_reti (show Dc Y_X11_soonest 8 (.ireturn) 1 9 from ⟨by decide +kernel, rfl⟩) rfl (h0 _ _) (by decide) (by decide)

theorem c_X11_soonest {l : Launch} {D : ZD} {B0 : Nat} (N : Nat) (x0 : Nat) (x1 : Int32) (g : ZS) : ∀ r, f_X11_soonest N x0 x1 g = some r → zCt l D B0 yX11_soonest Y_X11_soonest [.ref x0, .int x1] g (some (.int r.1)) r.2 :=
  zCt_ofF (vo := fun r => some (.int r.1)) (so := fun r => r.2) (by decide +kernel) rfl (fun h => by cases h) rfl (Nat.le_of_ble_eq_true rfl) (fun X => j_X11_soonest N x0 x1 g (fun _ _ h => h))

theorem j_X10_bits_34 {X : ZX} (N : Nat) (x2 : Int32)   (g : ZS) {K : Int32 → Prop} (h0 : ∀ v, K v → xK X (some (.int v)) g) : J Y_X10_bits X 0 0 34 [none, none, some (.int x2), none] [] g (f_X10_bits_34 N x2 g) K := by
  unfold f_X10_bits_34
  refine J_iload_n rfl rfl (show Dc Y_X10_bits 34 (.iload_n 2) 1 35 from ⟨by decide +kernel, rfl⟩) ?_
  exact J_reti (show Dc Y_X10_bits 35 (.ireturn) 1 36 from ⟨by decide +kernel, rfl⟩) rfl (h0 _) (by decide) (by decide)

theorem j_X10_bits_4 {X : ZX} (N : Nat) (x0 : Nat) (x1 : Int32) (x2 : Int32) (x3 : Int32)   (g : ZS) {K : ((Int32 × Int32) ⊕ Int32) → Prop} (h0 : ∀ v, K (.inr v) → xK X (some (.int v)) g) (hL4 : ∀ s, K (.inl s) → zG Y_X10_bits X 0 0 4 [some (.ref x0), some (.int x1), some (.int s.1), some (.int s.2)] [] g) : J Y_X10_bits X 0 0 4 [some (.ref x0), some (.int x1), some (.int x2), some (.int x3)] [] g (f_X10_bits_4 N x0 x1 x2 x3 g) K := by
  unfold f_X10_bits_4
  refine J_iload_n rfl rfl (show Dc Y_X10_bits 4 (.iload_n 3) 1 5 from ⟨by decide +kernel, rfl⟩) ?_
  refine J_iload_n rfl rfl (show Dc Y_X10_bits 5 (.iload_n 1) 1 6 from ⟨by decide +kernel, rfl⟩) ?_
  refine J_icmp_ge (tg := 34) (show Dc Y_X10_bits 6 (.if_icmp .ge 28) 3 9 from ⟨by decide +kernel, rfl⟩) (by decide) (fun h => ?_) (fun h => ?_)
  · refine J_mask [false, false, true, false] ?_
    refine J_map (f := Sum.inr) (fun _ h => h) ?_
    exact j_X10_bits_34 (K := fun o => K (.inr o)) N x2 g h0
  · refine J_iload_n rfl rfl (show Dc Y_X10_bits 9 (.iload_n 3) 1 10 from ⟨by decide +kernel, rfl⟩) ?_
    refine J_aload_n rfl rfl (show Dc Y_X10_bits 10 (.aload_n 0) 1 11 from ⟨by decide +kernel, rfl⟩) ?_
    refine J_getI (show Dc Y_X10_bits 11 (.getfield 23) 3 14 from ⟨by decide +kernel, rfl⟩) w_f_RX10_23 rfl (fun v1 => ?_)
    refine J_icmp_ge (tg := 34) (show Dc Y_X10_bits 14 (.if_icmp .ge 20) 3 17 from ⟨by decide +kernel, rfl⟩) (by decide) (fun h => ?_) (fun h => ?_)
    · refine J_mask [false, false, true, false] ?_
      refine J_map (f := Sum.inr) (fun _ h => h) ?_
      exact j_X10_bits_34 (K := fun o => K (.inr o)) N x2 g h0
    · refine J_iload_n rfl rfl (show Dc Y_X10_bits 17 (.iload_n 2) 1 18 from ⟨by decide +kernel, rfl⟩) ?_
      refine J_iconst (1 : Int32) rfl (show Dc Y_X10_bits 18 (.iconst 1) 1 19 from ⟨by decide +kernel, rfl⟩) ?_
      refine J_aload_n rfl rfl (show Dc Y_X10_bits 19 (.aload_n 0) 1 20 from ⟨by decide +kernel, rfl⟩) ?_
      refine J_getR (show Dc Y_X10_bits 20 (.getfield 9) 3 23 from ⟨by decide +kernel, rfl⟩) w_f_RX10_9 rfl (fun v2 => ?_)
      refine J_iload_n rfl rfl (show Dc Y_X10_bits 23 (.iload_n 3) 1 24 from ⟨by decide +kernel, rfl⟩) ?_
      refine J_iald (show Dc Y_X10_bits 24 (.iaload) 1 25 from ⟨by decide +kernel, rfl⟩) (fun v3 => ?_)
      refine J_ishl (show Dc Y_X10_bits 25 (.ishl) 1 26 from ⟨by decide +kernel, rfl⟩) ?_
      refine J_ior (show Dc Y_X10_bits 26 (.ior) 1 27 from ⟨by decide +kernel, rfl⟩) ?_
      refine J_istore_n [some (.ref x0), some (.int x1), some (.int (x2 ||| ((1 : Int32) <<< (v3 &&& 31)))), some (.int x3)] (show Dc Y_X10_bits 27 (.istore_n 2) 1 28 from ⟨by decide +kernel, rfl⟩) rfl (by decide) rfl rfl ?_
      refine J_iinc (1 : Int32) [some (.ref x0), some (.int x1), some (.int (x2 ||| ((1 : Int32) <<< (v3 &&& 31)))), some (.int (x3 + (1 : Int32)))] (show Dc Y_X10_bits 28 (.iinc 3 1) 3 31 from ⟨by decide +kernel, rfl⟩) rfl rfl (by decide) rfl rfl ?_
      refine J_goto (tg := 4) (show Dc Y_X10_bits 31 (.goto (-27)) 3 34 from ⟨by decide +kernel, rfl⟩) (by decide) ?_
      exact J_leaf (fun h => hL4 (x2 ||| ((1 : Int32) <<< (v3 &&& 31)), x3 + (1 : Int32)) h)

theorem j_X10_bits {X : ZX} (N : Nat) (x0 : Nat) (x1 : Int32)   (g : ZS) {K : Int32 → Prop} (h0 : ∀ v, K v → xK X (some (.int v)) g) : J Y_X10_bits X 0 0 0 [some (.ref x0), some (.int x1), none, none] [] g (f_X10_bits N x0 x1 g) K := by
  unfold f_X10_bits
  refine J_iconst (0 : Int32) rfl (show Dc Y_X10_bits 0 (.iconst 0) 1 1 from ⟨by decide +kernel, rfl⟩) ?_
  refine J_istore_n [some (.ref x0), some (.int x1), some (.int (0 : Int32)), none] (show Dc Y_X10_bits 1 (.istore_n 2) 1 2 from ⟨by decide +kernel, rfl⟩) rfl (by decide) rfl rfl ?_
  refine J_iconst (0 : Int32) rfl (show Dc Y_X10_bits 2 (.iconst 0) 1 3 from ⟨by decide +kernel, rfl⟩) ?_
  refine J_istore_n [some (.ref x0), some (.int x1), some (.int (0 : Int32)), some (.int (0 : Int32))] (show Dc Y_X10_bits 3 (.istore_n 3) 1 4 from ⟨by decide +kernel, rfl⟩) rfl (by decide) rfl rfl ?_
  exact J_loop (X := X) (K := K) (uc := fun _ => 0) (us := fun _ => 0) (lf := fun s => [some (.ref x0), some (.int x1), some (.int s.1), some (.int s.2)]) (gf := fun s => g) (fun s => j_X10_bits_4 (K := zKl Y_X10_bits X 4 (fun _ => 0) (fun _ => 0) (fun s => [some (.ref x0), some (.int x1), some (.int s.1), some (.int s.2)]) (fun s => g) K) N x0 x1 s.1 s.2 g h0 (fun s h => h)) N ((0 : Int32), (0 : Int32))

theorem c_X10_bits {l : Launch} {D : ZD} {B0 : Nat} (N : Nat) (x0 : Nat) (x1 : Int32) (g : ZS) : ∀ r, f_X10_bits N x0 x1 g = some r → zCt l D B0 yX10_bits Y_X10_bits [.ref x0, .int x1] g (some (.int r)) g :=
  zCt_ofF (vo := fun r => some (.int r)) (so := fun _ => g) (by decide +kernel) rfl (fun h => by cases h) rfl (Nat.le_of_ble_eq_true rfl) (fun X => j_X10_bits N x0 x1 g (fun _ h => h))

theorem j_X11_gatherSets_2 {X : ZX} (N : Nat) (x0 : Nat) (x1 : Int32) (x2 : Int32)   (g : ZS) {K : ((Int32 × ZS) ⊕ ZS) → Prop} (h0 : ∀ g, K (.inr g) → xK X none g) (hL2 : ∀ s, K (.inl s) → zG Y_X11_gatherSets X 0 0 2 [some (.ref x0), some (.int x1), some (.int s.1)] [] s.2) : J Y_X11_gatherSets X 0 0 2 [some (.ref x0), some (.int x1), some (.int x2)] [] g (f_X11_gatherSets_2 N x0 x1 x2 g) K := by
  unfold f_X11_gatherSets_2
  refine J_iload_n rfl rfl (show Dc Y_X11_gatherSets 2 (.iload_n 2) 1 3 from ⟨by decide +kernel, rfl⟩) ?_
  refine J_aload_n rfl rfl (show Dc Y_X11_gatherSets 3 (.aload_n 0) 1 4 from ⟨by decide +kernel, rfl⟩) ?_
  refine J_getR (show Dc Y_X11_gatherSets 4 (.getfield 47) 3 7 from ⟨by decide +kernel, rfl⟩) w_f_RX11_47 rfl (fun v1 => ?_)
  refine J_getI (show Dc Y_X11_gatherSets 7 (.getfield 146) 3 10 from ⟨by decide +kernel, rfl⟩) w_f_RX11_146 rfl (fun v2 => ?_)
  refine J_icmp_ge (tg := 57) (show Dc Y_X11_gatherSets 10 (.if_icmp .ge 47) 3 13 from ⟨by decide +kernel, rfl⟩) (by decide) (fun h => ?_) (fun h => ?_)
  · refine J_map (f := Sum.inr) (fun _ h => h) ?_
    exact J_ret0 (show Dc Y_X11_gatherSets 57 (.return_) 1 58 from ⟨by decide +kernel, rfl⟩) rfl (h0 _) (by decide) (by decide)
  · refine J_aload_n rfl rfl (show Dc Y_X11_gatherSets 13 (.aload_n 0) 1 14 from ⟨by decide +kernel, rfl⟩) ?_
    refine J_getR (show Dc Y_X11_gatherSets 14 (.getfield 79) 3 17 from ⟨by decide +kernel, rfl⟩) w_f_RX11_79 rfl (fun v3 => ?_)
    refine J_aload_n rfl rfl (show Dc Y_X11_gatherSets 17 (.aload_n 0) 1 18 from ⟨by decide +kernel, rfl⟩) ?_
    refine J_getR (show Dc Y_X11_gatherSets 18 (.getfield 47) 3 21 from ⟨by decide +kernel, rfl⟩) w_f_RX11_47 rfl (fun v4 => ?_)
    refine J_getR (show Dc Y_X11_gatherSets 21 (.getfield 171) 3 24 from ⟨by decide +kernel, rfl⟩) w_f_RX11_171 rfl (fun v5 => ?_)
    refine J_iload_n rfl rfl (show Dc Y_X11_gatherSets 24 (.iload_n 2) 1 25 from ⟨by decide +kernel, rfl⟩) ?_
    refine J_aald (kd := 25) (by decide) (by decide) (show Dc Y_X11_gatherSets 25 (.aaload) 1 26 from ⟨by decide +kernel, rfl⟩) (fun v6 => ?_)
    refine J_aload_n rfl rfl (show Dc Y_X11_gatherSets 26 (.aload_n 0) 1 27 from ⟨by decide +kernel, rfl⟩) ?_
    refine J_getR (show Dc Y_X11_gatherSets 27 (.getfield 37) 3 30 from ⟨by decide +kernel, rfl⟩) w_f_RX11_37 rfl (fun v7 => ?_)
    refine J_aload_n rfl rfl (show Dc Y_X11_gatherSets 30 (.aload_n 0) 1 31 from ⟨by decide +kernel, rfl⟩) ?_
    refine J_getR (show Dc Y_X11_gatherSets 31 (.getfield 30) 3 34 from ⟨by decide +kernel, rfl⟩) w_f_RX11_30 rfl (fun v8 => ?_)
    refine J_callVv (fun r => r) (show Dc Y_X11_gatherSets 34 (.invokevirtual 289) 3 37 from ⟨by decide +kernel, rfl⟩) w_m_RX11_289 w_in_X10_follow rfl w_se_X10_follow w_cw_X10_follow (c_X10_follow N v3 v6 v7 v8 g) rfl rfl (by decide) (Nat.le_of_ble_eq_true rfl) (by decide) (by decide) (fun g9 => ?_)
    refine J_aload_n rfl rfl (show Dc Y_X11_gatherSets 37 (.aload_n 0) 1 38 from ⟨by decide +kernel, rfl⟩) ?_
    refine J_getR (show Dc Y_X11_gatherSets 38 (.getfield 100) 3 41 from ⟨by decide +kernel, rfl⟩) w_f_RX11_100 rfl (fun v10 => ?_)
    refine J_iload_n rfl rfl (show Dc Y_X11_gatherSets 41 (.iload_n 2) 1 42 from ⟨by decide +kernel, rfl⟩) ?_
    refine J_aload_n rfl rfl (show Dc Y_X11_gatherSets 42 (.aload_n 0) 1 43 from ⟨by decide +kernel, rfl⟩) ?_
    refine J_getR (show Dc Y_X11_gatherSets 43 (.getfield 79) 3 46 from ⟨by decide +kernel, rfl⟩) w_f_RX11_79 rfl (fun v11 => ?_)
    refine J_iload_n rfl rfl (show Dc Y_X11_gatherSets 46 (.iload_n 1) 1 47 from ⟨by decide +kernel, rfl⟩) ?_
    refine J_callVi (fun r => r) (fun _ => g9) (show Dc Y_X11_gatherSets 47 (.invokevirtual 342) 3 50 from ⟨by decide +kernel, rfl⟩) w_m_RX11_342 w_in_X10_bits rfl w_se_X10_bits w_cw_X10_bits (c_X10_bits N v11 x1 g9) rfl rfl (by decide) (Nat.le_of_ble_eq_true rfl) (by decide) (by decide) (fun v12 => ?_)
    refine J_iast (show Dc Y_X11_gatherSets 50 (.iastore) 1 51 from ⟨by decide +kernel, rfl⟩) (fun g13 => ?_)
    refine J_iinc (1 : Int32) [some (.ref x0), some (.int x1), some (.int (x2 + (1 : Int32)))] (show Dc Y_X11_gatherSets 51 (.iinc 2 1) 3 54 from ⟨by decide +kernel, rfl⟩) rfl rfl (by decide) rfl rfl ?_
    refine J_goto (tg := 2) (show Dc Y_X11_gatherSets 54 (.goto (-52)) 3 57 from ⟨by decide +kernel, rfl⟩) (by decide) ?_
    exact J_leaf (fun h => hL2 (x2 + (1 : Int32), g13) h)

theorem j_X11_gatherSets {X : ZX} (N : Nat) (x0 : Nat) (x1 : Int32)   (g : ZS) {K : ZS → Prop} (h0 : ∀ g, K g → xK X none g) : J Y_X11_gatherSets X 0 0 0 [some (.ref x0), some (.int x1), none] [] g (f_X11_gatherSets N x0 x1 g) K := by
  unfold f_X11_gatherSets
  refine J_iconst (0 : Int32) rfl (show Dc Y_X11_gatherSets 0 (.iconst 0) 1 1 from ⟨by decide +kernel, rfl⟩) ?_
  refine J_istore_n [some (.ref x0), some (.int x1), some (.int (0 : Int32))] (show Dc Y_X11_gatherSets 1 (.istore_n 2) 1 2 from ⟨by decide +kernel, rfl⟩) rfl (by decide) rfl rfl ?_
  exact J_loop (X := X) (K := K) (uc := fun _ => 0) (us := fun _ => 0) (lf := fun s => [some (.ref x0), some (.int x1), some (.int s.1)]) (gf := fun s => s.2) (fun s => j_X11_gatherSets_2 (K := zKl Y_X11_gatherSets X 2 (fun _ => 0) (fun _ => 0) (fun s => [some (.ref x0), some (.int x1), some (.int s.1)]) (fun s => s.2) K) N x0 x1 s.1 s.2 h0 (fun s h => h)) N ((0 : Int32), g)

theorem c_X11_gatherSets {l : Launch} {D : ZD} {B0 : Nat} (N : Nat) (x0 : Nat) (x1 : Int32) (g : ZS) : ∀ r, f_X11_gatherSets N x0 x1 g = some r → zCt l D B0 yX11_gatherSets Y_X11_gatherSets [.ref x0, .int x1] g none r :=
  zCt_ofF (vo := fun _ => none) (so := fun r => r) (by decide +kernel) rfl (fun h => by cases h) rfl (Nat.le_of_ble_eq_true rfl) (fun X => j_X11_gatherSets N x0 x1 g (fun _ h => h))

theorem j_X6_known_4 {X : ZX} (N : Nat) (x0 : Nat) (x1 : Int32) (x2 : Int32)   (g : ZS) {K : ((Int32 × Int32) ⊕ Int32) → Prop} (h0 : ∀ v, K (.inr v) → xK X (some (.int v)) g) (hL4 : ∀ s, K (.inl s) → zG Y_X6_known X 0 0 4 [some (.ref x0), some (.int s.1), some (.int s.2)] [] g) : J Y_X6_known X 0 0 4 [some (.ref x0), some (.int x1), some (.int x2)] [] g (f_X6_known_4 N x0 x1 x2 g) K := by
  unfold f_X6_known_4
  refine J_iload_n rfl rfl (show Dc Y_X6_known 4 (.iload_n 2) 1 5 from ⟨by decide +kernel, rfl⟩) ?_
  refine J_aload_n rfl rfl (show Dc Y_X6_known 5 (.aload_n 0) 1 6 from ⟨by decide +kernel, rfl⟩) ?_
  refine J_getI (show Dc Y_X6_known 6 (.getfield 18) 3 9 from ⟨by decide +kernel, rfl⟩) w_f_RX6_18 rfl (fun v1 => ?_)
  refine J_icmp_ge (tg := 30) (show Dc Y_X6_known 9 (.if_icmp .ge 21) 3 12 from ⟨by decide +kernel, rfl⟩) (by decide) (fun h => ?_) (fun h => ?_)
  · refine J_map (f := Sum.inr) (fun _ h => h) ?_
    refine J_iload_n rfl rfl (show Dc Y_X6_known 30 (.iload_n 1) 1 31 from ⟨by decide +kernel, rfl⟩) ?_
    exact J_reti (show Dc Y_X6_known 31 (.ireturn) 1 32 from ⟨by decide +kernel, rfl⟩) rfl (h0 _) (by decide) (by decide)
  · refine J_iload_n rfl rfl (show Dc Y_X6_known 12 (.iload_n 1) 1 13 from ⟨by decide +kernel, rfl⟩) ?_
    refine J_aload_n rfl rfl (show Dc Y_X6_known 13 (.aload_n 0) 1 14 from ⟨by decide +kernel, rfl⟩) ?_
    refine J_getR (show Dc Y_X6_known 14 (.getfield 11) 3 17 from ⟨by decide +kernel, rfl⟩) w_f_RX6_11 rfl (fun v2 => ?_)
    refine J_iload_n rfl rfl (show Dc Y_X6_known 17 (.iload_n 2) 1 18 from ⟨by decide +kernel, rfl⟩) ?_
    refine J_aald (kd := 25) (by decide) (by decide) (show Dc Y_X6_known 18 (.aaload) 1 19 from ⟨by decide +kernel, rfl⟩) (fun v3 => ?_)
    refine J_callVi (fun r => r) (fun _ => g) (show Dc Y_X6_known 19 (.invokevirtual 42) 3 22 from ⟨by decide +kernel, rfl⟩) w_m_RX6_42 w_in_X0_known rfl w_se_X0_known w_cw_X0_known (c_X0_known N v3 g) rfl rfl (by decide) (Nat.le_of_ble_eq_true rfl) (by decide) (by decide) (fun v4 => ?_)
    refine J_ior (show Dc Y_X6_known 22 (.ior) 1 23 from ⟨by decide +kernel, rfl⟩) ?_
    refine J_istore_n [some (.ref x0), some (.int (x1 ||| v4)), some (.int x2)] (show Dc Y_X6_known 23 (.istore_n 1) 1 24 from ⟨by decide +kernel, rfl⟩) rfl (by decide) rfl rfl ?_
    refine J_iinc (1 : Int32) [some (.ref x0), some (.int (x1 ||| v4)), some (.int (x2 + (1 : Int32)))] (show Dc Y_X6_known 24 (.iinc 2 1) 3 27 from ⟨by decide +kernel, rfl⟩) rfl rfl (by decide) rfl rfl ?_
    refine J_goto (tg := 4) (show Dc Y_X6_known 27 (.goto (-23)) 3 30 from ⟨by decide +kernel, rfl⟩) (by decide) ?_
    exact J_leaf (fun h => hL4 (x1 ||| v4, x2 + (1 : Int32)) h)

theorem j_X6_known {X : ZX} (N : Nat) (x0 : Nat)   (g : ZS) {K : Int32 → Prop} (h0 : ∀ v, K v → xK X (some (.int v)) g) : J Y_X6_known X 0 0 0 [some (.ref x0), none, none] [] g (f_X6_known N x0 g) K := by
  unfold f_X6_known
  refine J_iconst (0 : Int32) rfl (show Dc Y_X6_known 0 (.iconst 0) 1 1 from ⟨by decide +kernel, rfl⟩) ?_
  refine J_istore_n [some (.ref x0), some (.int (0 : Int32)), none] (show Dc Y_X6_known 1 (.istore_n 1) 1 2 from ⟨by decide +kernel, rfl⟩) rfl (by decide) rfl rfl ?_
  refine J_iconst (0 : Int32) rfl (show Dc Y_X6_known 2 (.iconst 0) 1 3 from ⟨by decide +kernel, rfl⟩) ?_
  refine J_istore_n [some (.ref x0), some (.int (0 : Int32)), some (.int (0 : Int32))] (show Dc Y_X6_known 3 (.istore_n 2) 1 4 from ⟨by decide +kernel, rfl⟩) rfl (by decide) rfl rfl ?_
  exact J_loop (X := X) (K := K) (uc := fun _ => 0) (us := fun _ => 0) (lf := fun s => [some (.ref x0), some (.int s.1), some (.int s.2)]) (gf := fun s => g) (fun s => j_X6_known_4 (K := zKl Y_X6_known X 4 (fun _ => 0) (fun _ => 0) (fun s => [some (.ref x0), some (.int s.1), some (.int s.2)]) (fun s => g) K) N x0 s.1 s.2 g h0 (fun s h => h)) N ((0 : Int32), (0 : Int32))

theorem c_X6_known {l : Launch} {D : ZD} {B0 : Nat} (N : Nat) (x0 : Nat) (g : ZS) : ∀ r, f_X6_known N x0 g = some r → zCt l D B0 yX6_known Y_X6_known [.ref x0] g (some (.int r)) g :=
  zCt_ofF (vo := fun r => some (.int r)) (so := fun _ => g) (by decide +kernel) rfl (fun h => by cases h) rfl (Nat.le_of_ble_eq_true rfl) (fun X => j_X6_known N x0 g (fun _ h => h))

theorem j_X9_only {X : ZX} (x0 : Nat) (x1 : Int64)   (g : ZS) {K : ZS → Prop} (h0 : ∀ g, K g → xK X none g) : J Y_X9_only X 0 0 0 [some (.ref x0), some (.long x1), none] [] g (f_X9_only x0 x1 g) K := by
  unfold f_X9_only
  refine J_aload_n rfl rfl (show Dc Y_X9_only 0 (.aload_n 0) 1 1 from ⟨by decide +kernel, rfl⟩) ?_
  refine J_iconst (0 : Int32) rfl (show Dc Y_X9_only 1 (.iconst 0) 1 2 from ⟨by decide +kernel, rfl⟩) ?_
  refine J_putI (show Dc Y_X9_only 2 (.putfield 15) 3 5 from ⟨by decide +kernel, rfl⟩) w_f_RX9_15 rfl rfl (fun g1 => ?_) (fun h => by cases h)
  refine J_aload_n rfl rfl (show Dc Y_X9_only 5 (.aload_n 0) 1 6 from ⟨by decide +kernel, rfl⟩) ?_
  refine J_lload_n rfl rfl (show Dc Y_X9_only 6 (.lload_n 1) 1 7 from ⟨by decide +kernel, rfl⟩) ?_
  refine J_callVv (fun r => r) (show Dc Y_X9_only 7 (.invokevirtual 19) 3 10 from ⟨by decide +kernel, rfl⟩) w_m_RX9_19 w_in_X9_add rfl w_se_X9_add w_cw_X9_add (c_X9_add x0 x1 g1) rfl rfl (by decide) (Nat.le_of_ble_eq_true rfl) (by decide) (by decide) (fun g2 => ?_)
  exact J_ret0 (show Dc Y_X9_only 10 (.return_) 1 11 from ⟨by decide +kernel, rfl⟩) rfl (h0 _) (by decide) (by decide)

theorem c_X9_only {l : Launch} {D : ZD} {B0 : Nat} (x0 : Nat) (x1 : Int64) (g : ZS) : ∀ r, f_X9_only x0 x1 g = some r → zCt l D B0 yX9_only Y_X9_only [.ref x0, .long x1] g none r :=
  zCt_ofF (vo := fun _ => none) (so := fun r => r) (by decide +kernel) rfl (fun h => by cases h) rfl (Nat.le_of_ble_eq_true rfl) (fun X => j_X9_only x0 x1 g (fun _ h => h))

theorem j_X11_unsaid_10 {X : ZX} (N : Nat) (x0 : Nat) (x1 : Int32) (x2 : Int32)   (g : ZS) {K : ((Int32 × Int32) ⊕ (Int32 × ZS)) → Prop} (h0 : ∀ v g, K (.inr (v, g)) → xK X (some (.int v)) g) (hL10 : ∀ s, K (.inl s) → zG Y_X11_unsaid X 0 0 10 [some (.ref x0), some (.int s.1), some (.int s.2)] [] g) : J Y_X11_unsaid X 0 0 10 [some (.ref x0), some (.int x1), some (.int x2)] [] g (f_X11_unsaid_10 N x0 x1 x2 g) K := by
  unfold f_X11_unsaid_10
  refine J_iload_n rfl rfl (show Dc Y_X11_unsaid 10 (.iload_n 2) 1 11 from ⟨by decide +kernel, rfl⟩) ?_
  refine J_aload_n rfl rfl (show Dc Y_X11_unsaid 11 (.aload_n 0) 1 12 from ⟨by decide +kernel, rfl⟩) ?_
  refine J_getR (show Dc Y_X11_unsaid 12 (.getfield 47) 3 15 from ⟨by decide +kernel, rfl⟩) w_f_RX11_47 rfl (fun v1 => ?_)
  refine J_getI (show Dc Y_X11_unsaid 15 (.getfield 146) 3 18 from ⟨by decide +kernel, rfl⟩) w_f_RX11_146 rfl (fun v2 => ?_)
  refine J_icmp_ge (tg := 36) (show Dc Y_X11_unsaid 18 (.if_icmp .ge 18) 3 21 from ⟨by decide +kernel, rfl⟩) (by decide) (fun h => ?_) (fun h => ?_)
  · refine J_map (f := Sum.inr) (fun _ h => h) ?_
    refine J_aload_n rfl rfl (show Dc Y_X11_unsaid 36 (.aload_n 0) 1 37 from ⟨by decide +kernel, rfl⟩) ?_
    refine J_getR (show Dc Y_X11_unsaid 37 (.getfield 19) 3 40 from ⟨by decide +kernel, rfl⟩) w_f_RX11_19 rfl (fun v3 => ?_)
    refine J_sipush (255 : Int32) rfl (show Dc Y_X11_unsaid 40 (.sipush 255) 3 43 from ⟨by decide +kernel, rfl⟩) ?_
    refine J_aload_n rfl rfl (show Dc Y_X11_unsaid 43 (.aload_n 0) 1 44 from ⟨by decide +kernel, rfl⟩) ?_
    refine J_getR (show Dc Y_X11_unsaid 44 (.getfield 47) 3 47 from ⟨by decide +kernel, rfl⟩) w_f_RX11_47 rfl (fun v4 => ?_)
    refine J_callVi (fun r => r) (fun _ => g) (show Dc Y_X11_unsaid 47 (.invokevirtual 338) 3 50 from ⟨by decide +kernel, rfl⟩) w_m_RX11_338 w_in_X6_known rfl w_se_X6_known w_cw_X6_known (c_X6_known N v4 g) rfl rfl (by decide) (Nat.le_of_ble_eq_true rfl) (by decide) (by decide) (fun v5 => ?_)
    refine J_iconst (-1 : Int32) rfl (show Dc Y_X11_unsaid 50 (.iconst (-1)) 1 51 from ⟨by decide +kernel, rfl⟩) ?_
    refine J_ixor (show Dc Y_X11_unsaid 51 (.ixor) 1 52 from ⟨by decide +kernel, rfl⟩) ?_
    refine J_iand (show Dc Y_X11_unsaid 52 (.iand) 1 53 from ⟨by decide +kernel, rfl⟩) ?_
    refine J_i2l (show Dc Y_X11_unsaid 53 (.i2l) 1 54 from ⟨by decide +kernel, rfl⟩) ?_
    refine J_callVv (fun r => r) (show Dc Y_X11_unsaid 54 (.invokevirtual 339) 3 57 from ⟨by decide +kernel, rfl⟩) w_m_RX11_339 w_in_X9_only rfl w_se_X9_only w_cw_X9_only (c_X9_only v3 (((255 : Int32) &&& (v5 ^^^ (-1 : Int32))).toInt64) g) rfl rfl (by decide) (Nat.le_of_ble_eq_true rfl) (by decide) (by decide) (fun g6 => ?_)
    refine J_sipush (255 : Int32) rfl (show Dc Y_X11_unsaid 57 (.sipush 255) 3 60 from ⟨by decide +kernel, rfl⟩) ?_
    refine J_iload_n rfl rfl (show Dc Y_X11_unsaid 60 (.iload_n 1) 1 61 from ⟨by decide +kernel, rfl⟩) ?_
    refine J_iconst (-1 : Int32) rfl (show Dc Y_X11_unsaid 61 (.iconst (-1)) 1 62 from ⟨by decide +kernel, rfl⟩) ?_
    refine J_ixor (show Dc Y_X11_unsaid 62 (.ixor) 1 63 from ⟨by decide +kernel, rfl⟩) ?_
    refine J_iand (show Dc Y_X11_unsaid 63 (.iand) 1 64 from ⟨by decide +kernel, rfl⟩) ?_
    exact J_reti (show Dc Y_X11_unsaid 64 (.ireturn) 1 65 from ⟨by decide +kernel, rfl⟩) rfl (h0 _ _) (by decide) (by decide)
  · refine J_iload_n rfl rfl (show Dc Y_X11_unsaid 21 (.iload_n 1) 1 22 from ⟨by decide +kernel, rfl⟩) ?_
    refine J_aload_n rfl rfl (show Dc Y_X11_unsaid 22 (.aload_n 0) 1 23 from ⟨by decide +kernel, rfl⟩) ?_
    refine J_getR (show Dc Y_X11_unsaid 23 (.getfield 100) 3 26 from ⟨by decide +kernel, rfl⟩) w_f_RX11_100 rfl (fun v7 => ?_)
    refine J_iload_n rfl rfl (show Dc Y_X11_unsaid 26 (.iload_n 2) 1 27 from ⟨by decide +kernel, rfl⟩) ?_
    refine J_iald (show Dc Y_X11_unsaid 27 (.iaload) 1 28 from ⟨by decide +kernel, rfl⟩) (fun v8 => ?_)
    refine J_ior (show Dc Y_X11_unsaid 28 (.ior) 1 29 from ⟨by decide +kernel, rfl⟩) ?_
    refine J_istore_n [some (.ref x0), some (.int (x1 ||| v8)), some (.int x2)] (show Dc Y_X11_unsaid 29 (.istore_n 1) 1 30 from ⟨by decide +kernel, rfl⟩) rfl (by decide) rfl rfl ?_
    refine J_iinc (1 : Int32) [some (.ref x0), some (.int (x1 ||| v8)), some (.int (x2 + (1 : Int32)))] (show Dc Y_X11_unsaid 30 (.iinc 2 1) 3 33 from ⟨by decide +kernel, rfl⟩) rfl rfl (by decide) rfl rfl ?_
    refine J_goto (tg := 10) (show Dc Y_X11_unsaid 33 (.goto (-23)) 3 36 from ⟨by decide +kernel, rfl⟩) (by decide) ?_
    exact J_leaf (fun h => hL10 (x1 ||| v8, x2 + (1 : Int32)) h)

theorem j_X11_unsaid {X : ZX} (N : Nat) (x0 : Nat)   (g : ZS) {K : (Int32 × ZS) → Prop} (h0 : ∀ v g, K (v, g) → xK X (some (.int v)) g) : J Y_X11_unsaid X 0 0 0 [some (.ref x0), none, none] [] g (f_X11_unsaid N x0 g) K := by
  unfold f_X11_unsaid
  refine J_aload_n rfl rfl (show Dc Y_X11_unsaid 0 (.aload_n 0) 1 1 from ⟨by decide +kernel, rfl⟩) ?_
  refine J_bipush (8 : Int32) rfl (show Dc Y_X11_unsaid 1 (.bipush 8) 2 3 from ⟨by decide +kernel, rfl⟩) ?_
  refine J_callVv (fun r => r) (show Dc Y_X11_unsaid 3 (.invokevirtual 335) 3 6 from ⟨by decide +kernel, rfl⟩) w_m_RX11_335 w_in_X11_gatherSets rfl w_se_X11_gatherSets w_cw_X11_gatherSets (c_X11_gatherSets N x0 (8 : Int32) g) rfl rfl (by decide) (Nat.le_of_ble_eq_true rfl) (by decide) (by decide) (fun g1 => ?_)
  refine J_iconst (0 : Int32) rfl (show Dc Y_X11_unsaid 6 (.iconst 0) 1 7 from ⟨by decide +kernel, rfl⟩) ?_
  refine J_istore_n [some (.ref x0), some (.int (0 : Int32)), none] (show Dc Y_X11_unsaid 7 (.istore_n 1) 1 8 from ⟨by decide +kernel, rfl⟩) rfl (by decide) rfl rfl ?_
  refine J_iconst (0 : Int32) rfl (show Dc Y_X11_unsaid 8 (.iconst 0) 1 9 from ⟨by decide +kernel, rfl⟩) ?_
  refine J_istore_n [some (.ref x0), some (.int (0 : Int32)), some (.int (0 : Int32))] (show Dc Y_X11_unsaid 9 (.istore_n 2) 1 10 from ⟨by decide +kernel, rfl⟩) rfl (by decide) rfl rfl ?_
  exact J_loop (X := X) (K := K) (uc := fun _ => 0) (us := fun _ => 0) (lf := fun s => [some (.ref x0), some (.int s.1), some (.int s.2)]) (gf := fun s => g1) (fun s => j_X11_unsaid_10 (K := zKl Y_X11_unsaid X 10 (fun _ => 0) (fun _ => 0) (fun s => [some (.ref x0), some (.int s.1), some (.int s.2)]) (fun s => g1) K) N x0 s.1 s.2 g1 h0 (fun s h => h)) N ((0 : Int32), (0 : Int32))

theorem c_X11_unsaid {l : Launch} {D : ZD} {B0 : Nat} (N : Nat) (x0 : Nat) (g : ZS) : ∀ r, f_X11_unsaid N x0 g = some r → zCt l D B0 yX11_unsaid Y_X11_unsaid [.ref x0] g (some (.int r.1)) r.2 :=
  zCt_ofF (vo := fun r => some (.int r.1)) (so := fun r => r.2) (by decide +kernel) rfl (fun h => by cases h) rfl (Nat.le_of_ble_eq_true rfl) (fun X => j_X11_unsaid N x0 g (fun _ _ h => h))
