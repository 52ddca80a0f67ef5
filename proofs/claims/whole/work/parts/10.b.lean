def f_X11_badInParrots_27 (N : Nat) (x1 : Int32)  (g : ZS) : Option Int32 :=
  some x1

def f_X11_badInParrots_59 (N : Nat)  (s0 : Int32) (g : ZS) : Option Int32 :=
  some s0

def f_X11_badInParrots_2 (N : Nat) (x0 : Nat) (x1 : Int32)  (g : ZS) : Option ((Int32) ⊕ Int32) :=
  (zrdR g x0 11 0).bind fun v1 =>
  (zrdI g v1 8 1).bind fun v2 =>
  if v2 ≤ x1 then
    (
      (zrdR g x0 11 0).bind fun v3 =>
      (zrdI g v3 8 1).bind fun v4 =>
      if (v4 - v4 / (3 : Int32) * (3 : Int32)) = (2 : Int32) then
        f_X11_badInParrots_59 N (-1 : Int32) g
      else
        (zrdR g x0 11 0).bind fun v5 =>
        (zrdI g v5 8 1).bind fun v6 =>
        f_X11_badInParrots_59 N v6 g).map Sum.inr
  else
    if (17 : Int32) ≤ x1 then
      (
      f_X11_badInParrots_27 N x1 g).map Sum.inr
    else
      zvs g x0 11 <| (f_X11_standsInParrots x0 x1 g).bind fun v7 =>
      if v7 = 0 then
        (
        f_X11_badInParrots_27 N x1 g).map Sum.inr
      else
        some (.inl (x1 + (1 : Int32)))

def f_X11_badInParrots (N : Nat) (x0 : Nat)  (g : ZS) : Option Int32 :=
  zloop (fun s => f_X11_badInParrots_2 N x0 s g) N (0 : Int32)

def f_X6_welcome_45   (g : ZS) : Option ZS :=
  some g

def f_X6_welcome (x0 : Nat) (x1 : Int32) (x2 : Int32)  (g : ZS) : Option ZS :=
  (zrdI g x0 6 1).bind fun v1 =>
  if (6 : Int32) ≤ v1 then
    f_X6_welcome_45 g
  else
    (zrdR g x0 6 0).bind fun v2 =>
    (zrdI g x0 6 1).bind fun v3 =>
    (zaald 25 g v2 v3).bind fun v4 =>
    (zwrI g v4 0 4 x1).bind fun g5 =>
    (zrdR g5 x0 6 0).bind fun v6 =>
    (zrdI g5 x0 6 1).bind fun v7 =>
    (zaald 25 g5 v6 v7).bind fun v8 =>
    (zwrI g5 v8 0 5 x2).bind fun g9 =>
    (zrdI g9 x0 6 1).bind fun v10 =>
    (zwrI g9 x0 6 1 (v10 + (1 : Int32))).bind fun g11 =>
    f_X6_welcome_45 g11

def f_X11_readParrots_40 (N : Nat) (x0 : Nat) (x2 : Int32) (x3 : Int32)  (g : ZS) : Option ((Int32 × ZS) ⊕ (Int32 × ZS)) :=
  if x2 ≤ x3 then
    (
      (zrdR g x0 11 8).bind fun v1 =>
      (zwrI g v1 4 1 (0 : Int32)).bind fun g2 =>
      some (x2, g2)).map Sum.inr
  else
    (zrdR g x0 11 6).bind fun v3 =>
    (zrdR g x0 11 0).bind fun v4 =>
    zvs g v4 8 <| (f_X8_digitAt v4 ((3 : Int32) * x3) g).bind fun v5 =>
    (zrdR g x0 11 0).bind fun v6 =>
    zvs g v6 8 <| (f_X8_digitAt v6 (((3 : Int32) * x3) + (1 : Int32)) g).bind fun v7 =>
    zvs g v3 6 <| (f_X6_welcome v3 v5 v7 g).bind fun g8 =>
    some (.inl (x3 + (1 : Int32), g8))

def f_X11_readParrots (N : Nat) (x0 : Nat)  (g : ZS) : Option (Int32 × ZS) :=
  (zrdR g x0 11 0).bind fun v1 =>
  (zrdI g v1 8 1).bind fun v2 =>
  if v2 = 0 then
    some ((0 : Int32), g)
  else
    zvs g x0 11 <| (f_X11_badInParrots N x0 g).bind fun v3 =>
    if v3 = (-1 : Int32) then
      (zrdR g x0 11 0).bind fun v4 =>
      (zrdI g v4 8 1).bind fun v5 =>
      zloop (fun s => f_X11_readParrots_40 N x0 ((v5 + (1 : Int32)) / (3 : Int32)) s.1 s.2) N ((0 : Int32), g)
    else
      some ((-1 : Int32) - v3, g)

def f_X11_parrots (N : Nat) (x0 : Nat)  (g : ZS) : Option (Int32 × ZS) :=
  zvs g x0 11 <| (f_X11_readParrots N x0 g).bind fun r1 =>
  (zrdR r1.2 x0 11 0).bind fun v2 =>
  (zwrI r1.2 v2 8 1 (0 : Int32)).bind fun g3 =>
  some (r1.1, g3)

def f_X12_passes_15   (g : ZS) : Option (Int32 × ZS) :=
  some ((0 : Int32), g)

def f_X12_passes (x0 : Nat) (x1 : Int32)  (g : ZS) : Option (Int32 × ZS) :=
  zvs g x0 12 <| (f_X12_fine x0 g).bind fun v1 =>
  if v1 = 0 then
    f_X12_passes_15 g
  else
    zvs g x0 12 <| (f_X12_here x0 g).bind fun v2 =>
    if v2 = x1 then
      (zrdI g x0 12 14).bind fun v3 =>
      (zwrI g x0 12 14 (v3 + (1 : Int32))).bind fun g4 =>
      some ((1 : Int32), g4)
    else
      f_X12_passes_15 g

def f_X12_of (x0 : Int32) (x1 : Int32)  : Option Int32 :=
  some (((36 : Int32) * x0) + x1)

def f_X12_parrots_92 (N : Nat) (x0 : Nat) (x1 : Int32)  (g : ZS) : Option ((Int32 × Int32 × ZS) ⊕ (Int32 × ZS)) :=
  zvs g x0 12 <| (f_X12_passes x0 (59 : Int32) g).bind fun r1 =>
  some (.inl (x1 + (1 : Int32), r1.1, r1.2))

def f_X12_parrots_129 (N : Nat) (x0 : Nat) (x1 : Int32) (x3 : Int32) (x4 : Int32)  (g : ZS) : Option ((Int32 × ZS) ⊕ ((Int32 × ZS) ⊕ (Int32 × ZS))) :=
  if (36 : Int32) ≤ x4 then
    (
      (zrdR g x0 12 0).bind fun v1 =>
      (zrdI g x0 12 1).bind fun v2 =>
      (f_X12_of v2 (0 : Int32)).bind fun v3 =>
      (zrdR g x0 12 16).bind fun v4 =>
      (zald 20 g v4 ((2 : Int32) * x3)).bind fun v5 =>
      (zast 20 g v1 v3 v5).bind fun g6 =>
      (zrdR g6 x0 12 2).bind fun v7 =>
      (zrdI g6 x0 12 1).bind fun v8 =>
      (zrdR g6 x0 12 16).bind fun v9 =>
      (zald 20 g6 v9 (((2 : Int32) * x3) + (1 : Int32))).bind fun v10 =>
      (zast 20 g6 v7 v8 v10).bind fun g11 =>
      (zrdI g11 x0 12 1).bind fun v12 =>
      (zwrI g11 x0 12 1 (v12 + (1 : Int32))).bind fun g13 =>
      some (.inl (x3 + (1 : Int32), g13))).map Sum.inr
  else
    (zrdR g x0 12 0).bind fun v14 =>
    (zrdI g x0 12 1).bind fun v15 =>
    (f_X12_of v15 x4).bind fun v16 =>
    (zast 20 g v14 v16 (0 : Int32)).bind fun g17 =>
    some (.inl (x4 + (1 : Int32), g17))

def f_X12_parrots_121 (N : Nat) (x0 : Nat) (x1 : Int32) (x3 : Int32)  (g : ZS) : Option ((Int32 × ZS) ⊕ (Int32 × ZS)) :=
  if x1 ≤ x3 then
    (
      (zwrI g x0 12 26 (0 : Int32)).bind fun g1 =>
      (zrdI g1 x0 12 44).bind fun v2 =>
      (zwrI g1 x0 12 44 (v2 + (1 : Int32))).bind fun g3 =>
      some (x1, g3)).map Sum.inr
  else
    zloop (fun s => f_X12_parrots_129 N x0 x1 x3 s.1 s.2) N ((0 : Int32), g)

def f_X12_parrots_105 (N : Nat) (x0 : Nat) (x1 : Int32)  (g : ZS) : Option (Int32 × ZS) :=
  zvs g x0 12 <| (f_X12_wasRight x0 g).bind fun r1 =>
  if r1.1 = 0 then
    (zrdI r1.2 x0 12 15).bind fun v2 =>
    some ((-1 : Int32) - v2, r1.2)
  else
    zloop (fun s => f_X12_parrots_121 N x0 x1 s.1 s.2) N ((0 : Int32), r1.2)

def f_X12_parrots_24 (N : Nat) (x0 : Nat) (x1 : Int32) (x2 : Int32)  (g : ZS) : Option ((Int32 × Int32 × ZS) ⊕ (Int32 × ZS)) :=
  if x2 = 0 then
    (
    f_X12_parrots_105 N x0 x1 g).map Sum.inr
  else
    zvs g x0 12 <| (f_X12_fine x0 g).bind fun v1 =>
    if v1 = 0 then
      (
      f_X12_parrots_105 N x0 x1 g).map Sum.inr
    else
      (zrdI g x0 12 1).bind fun v2 =>
      if (v2 + x1) = (6 : Int32) then
        (zrdI g x0 12 14).bind fun v9 =>
        zvs g x0 12 <| (f_X12_fault x0 v9 g).bind fun g10 =>
        f_X12_parrots_92 N x0 x1 g10
      else
        (zrdR g x0 12 16).bind fun v3 =>
        zvs g x0 12 <| (f_X12_oneOf x0 (48 : Int32) (4 : Int32) g).bind fun r4 =>
        (zast 20 r4.2 v3 ((2 : Int32) * x1) r4.1).bind fun g5 =>
        (zrdR g5 x0 12 16).bind fun v6 =>
        zvs g5 x0 12 <| (f_X12_oneOf x0 (49 : Int32) (8 : Int32) g5).bind fun r7 =>
        (zast 20 r7.2 v6 (((2 : Int32) * x1) + (1 : Int32)) (r7.1 + (1 : Int32))).bind fun g8 =>
        f_X12_parrots_92 N x0 x1 g8

def f_X12_parrots (N : Nat) (x0 : Nat)  (g : ZS) : Option (Int32 × ZS) :=
  (zwrI g x0 12 10 (0 : Int32)).bind fun g1 =>
  zvs g1 x0 12 <| (f_X12_beginText x0 (17 : Int32) g1).bind fun g2 =>
  (zrdI g2 x0 12 12).bind fun v3 =>
  if v3 = 0 then
    some ((0 : Int32), g2)
  else
    zloop (fun s => f_X12_parrots_24 N x0 s.1 s.2.1 s.2.2) N ((0 : Int32), (1 : Int32), g2)

def f_X11_sumOfWorths_4 (N : Nat) (x0 : Nat) (x1 : Int32) (x2 : Int32)  (g : ZS) : Option ((Int32 × Int32) ⊕ Int32) :=
  if (8 : Int32) ≤ x2 then
    (
      some x1).map Sum.inr
  else
    (zrdR g x0 11 3).bind fun v1 =>
    (zald 20 g v1 x2).bind fun v2 =>
    some (.inl (x1 + v2, x2 + (1 : Int32)))

def f_X11_sumOfWorths (N : Nat) (x0 : Nat)  (g : ZS) : Option Int32 :=
  zloop (fun s => f_X11_sumOfWorths_4 N x0 s.1 s.2 g) N ((0 : Int32), (0 : Int32))

def f_X11_readWorths_31 (N : Nat) (x1 : Int32)  (g : ZS) : Option (Int32 × ZS) :=
  some ((-1 : Int32) - x1, g)

def f_X11_readWorths_65 (N : Nat) (x0 : Nat) (x1 : Int32)  (g : ZS) : Option ((Int32 × ZS) ⊕ (Int32 × ZS)) :=
  if (8 : Int32) ≤ x1 then
    (
      zvs g x0 11 <| (f_X11_sumOfWorths N x0 g).bind fun v1 =>
      some (v1, g)).map Sum.inr
  else
    (zrdR g x0 11 3).bind fun v2 =>
    (zrdR g x0 11 0).bind fun v3 =>
    zvs g v3 8 <| (f_X8_digitAt v3 x1 g).bind fun v4 =>
    (zast 20 g v2 x1 v4).bind fun g5 =>
    some (.inl (x1 + (1 : Int32), g5))

def f_X11_readWorths_2 (N : Nat) (x0 : Nat) (x1 : Int32)  (g : ZS) : Option ((Int32) ⊕ (Int32 × ZS)) :=
  (zrdR g x0 11 0).bind fun v1 =>
  (zrdI g v1 8 1).bind fun v2 =>
  if v2 ≤ x1 then
    (
      (zrdR g x0 11 0).bind fun v3 =>
      (zrdI g v3 8 1).bind fun v4 =>
      if (8 : Int32) ≤ v4 then
        zloop (fun s => f_X11_readWorths_65 N x0 s.1 s.2) N ((0 : Int32), g)
      else
        (zrdR g x0 11 0).bind fun v5 =>
        (zrdI g v5 8 1).bind fun v6 =>
        some ((-1 : Int32) - v6, g)).map Sum.inr
  else
    if (8 : Int32) ≤ x1 then
      (
      f_X11_readWorths_31 N x1 g).map Sum.inr
    else
      (zrdR g x0 11 0).bind fun v7 =>
      zvs g v7 8 <| (f_X8_digitAt v7 x1 g).bind fun v8 =>
      if v8 = (-1 : Int32) then
        (
        f_X11_readWorths_31 N x1 g).map Sum.inr
      else
        some (.inl (x1 + (1 : Int32)))

def f_X11_readWorths (N : Nat) (x0 : Nat)  (g : ZS) : Option (Int32 × ZS) :=
  zloop (fun s => f_X11_readWorths_2 N x0 s g) N (0 : Int32)

def f_X11_worths (N : Nat) (x0 : Nat)  (g : ZS) : Option (Int32 × ZS) :=
  zvs g x0 11 <| (f_X11_readWorths N x0 g).bind fun r1 =>
  (zrdR r1.2 x0 11 0).bind fun v2 =>
  (zwrI r1.2 v2 8 1 (0 : Int32)).bind fun g3 =>
  some (r1.1, g3)

def f_X12_worths_66 (N : Nat) (x0 : Nat) (x1 : Int32) (x2 : Int32)  (g : ZS) : Option ((Int32 × ZS) ⊕ (Int32 × ZS)) :=
  if (8 : Int32) ≤ x2 then
    (
      some (x1, g)).map Sum.inr
  else
    (zrdR g x0 12 3).bind fun v1 =>
    (zrdR g x0 12 16).bind fun v2 =>
    (zald 20 g v2 x2).bind fun v3 =>
    (zast 20 g v1 x2 v3).bind fun g4 =>
    some (.inl (x2 + (1 : Int32), g4))

def f_X12_worths_15 (N : Nat) (x0 : Nat) (x1 : Int32) (x2 : Int32)  (g : ZS) : Option ((Int32 × Int32 × ZS) ⊕ (Int32 × ZS)) :=
  if (8 : Int32) ≤ x2 then
    (
      zvs g x0 12 <| (f_X12_wasRight x0 g).bind fun r1 =>
      if r1.1 = 0 then
        (zrdI r1.2 x0 12 15).bind fun v2 =>
        some ((-1 : Int32) - v2, r1.2)
      else
        zloop (fun s => f_X12_worths_66 N x0 x1 s.1 s.2) N ((0 : Int32), r1.2)).map Sum.inr
  else
    (zrdR g x0 12 16).bind fun v3 =>
    zvs g x0 12 <| (f_X12_oneOf x0 (48 : Int32) (10 : Int32) g).bind fun r4 =>
    (zast 20 r4.2 v3 x2 r4.1).bind fun g5 =>
    (zrdR g5 x0 12 16).bind fun v6 =>
    (zald 20 g5 v6 x2).bind fun v7 =>
    some (.inl (x1 + v7, x2 + (1 : Int32), g5))

def f_X12_worths (N : Nat) (x0 : Nat)  (g : ZS) : Option (Int32 × ZS) :=
  (zwrI g x0 12 10 (0 : Int32)).bind fun g1 =>
  zvs g1 x0 12 <| (f_X12_beginText x0 (8 : Int32) g1).bind fun g2 =>
  zloop (fun s => f_X12_worths_15 N x0 s.1 s.2.1 s.2.2) N ((0 : Int32), (0 : Int32), g2)

def f_X5_lengthen_24   (g : ZS) : Option (Int32 × ZS) :=
  some ((0 : Int32), g)

def f_X5_lengthen (x0 : Nat) (x1 : Int32)  (g : ZS) : Option (Int32 × ZS) :=
  (zrdI g x0 5 7).bind fun v1 =>
  if v1 < (1 : Int32) then
    f_X5_lengthen_24 g
  else
    (zrdI g x0 5 7).bind fun v2 =>
    if (2 : Int32) < v2 then
      f_X5_lengthen_24 g
    else
      (zrdI g x0 5 4).bind fun v3 =>
      if (1 : Int32) ≤ v3 then
        (zrdR g x0 5 0).bind fun v4 =>
        (zrdI g x0 5 4).bind fun v5 =>
        (zrdR g x0 5 0).bind fun v6 =>
        (zrdI g x0 5 4).bind fun v7 =>
        (zald 20 g v6 (v7 - (1 : Int32))).bind fun v8 =>
        (zast 20 g v4 (v5 - (1 : Int32)) ((v8 * (10 : Int32)) + x1)).bind fun g9 =>
        (zrdI g9 x0 5 7).bind fun v10 =>
        (zwrI g9 x0 5 7 (v10 + (1 : Int32))).bind fun g11 =>
        some ((1 : Int32), g11)
      else
        f_X5_lengthen_24 g

def f_X5_rankOf_76   : Option Int32 :=
  some (1 : Int32)

def f_X5_rankOf_78   : Option Int32 :=
  some (2 : Int32)

def f_X5_rankOf_80   : Option Int32 :=
  some (3 : Int32)

def f_X5_rankOf (x0 : Int32)  : Option Int32 :=
  zcase x0 [
    ((42 : Int32),
      f_X5_rankOf_80),
    ((43 : Int32),
      f_X5_rankOf_78),
    ((45 : Int32),
      f_X5_rankOf_78),
    ((47 : Int32),
      f_X5_rankOf_80),
    ((60 : Int32),
      f_X5_rankOf_76),
    ((61 : Int32),
      f_X5_rankOf_76),
    ((62 : Int32),
      f_X5_rankOf_76),
    ((256 : Int32),
      some (4 : Int32))] (
    some (0 : Int32))

def f_X5_emit_29   (g : ZS) : Option ZS :=
  some g

def f_X5_emit (x0 : Nat) (x1 : Int32)  (g : ZS) : Option ZS :=
  (zrdI g x0 5 4).bind fun v1 =>
  if (40 : Int32) ≤ v1 then
    f_X5_emit_29 g
  else
    (zrdR g x0 5 0).bind fun v2 =>
    (zrdI g x0 5 4).bind fun v3 =>
    (zast 20 g v2 v3 x1).bind fun g4 =>
    (zrdI g4 x0 5 4).bind fun v5 =>
    (zwrI g4 x0 5 4 (v5 + (1 : Int32))).bind fun g6 =>
    f_X5_emit_29 g6

def f_X5_release_55 (N : Nat)   (g : ZS) : Option ZS :=
  some g

def f_X5_release_0b (N : Nat) (x0 : Nat) (x1 : Int32)  (g : ZS) : Option ((ZS) ⊕ ZS) :=
  (zrdI g x0 5 5).bind fun v1 =>
  if v1 ≤ 0 then
    (
    f_X5_release_55 N g).map Sum.inr
  else
    (zrdR g x0 5 2).bind fun v2 =>
    (zrdI g x0 5 5).bind fun v3 =>
    (zald 20 g v2 (v3 - (1 : Int32))).bind fun v4 =>
    (f_X5_rankOf v4).bind fun v5 =>
    if v5 < x1 then
      (
      f_X5_release_55 N g).map Sum.inr
    else
      (zrdI g x0 5 5).bind fun v6 =>
      (zwrI g x0 5 5 (v6 - (1 : Int32))).bind fun g7 =>
      (zrdR g7 x0 5 2).bind fun v8 =>
      (zrdI g7 x0 5 5).bind fun v9 =>
      (zald 20 g7 v8 v9).bind fun v10 =>
      zvs g7 x0 5 <| (f_X5_emit x0 ((2000 : Int32) + v10) g7).bind fun g11 =>
      some (.inl g11)

def f_X5_release (N : Nat) (x0 : Nat) (x1 : Int32) (g : ZS) : Option ZS :=
  zloop (fun s => f_X5_release_0b N x0 x1 s) N g

def f_X5_close_31 (N : Nat) (x0 : Nat)  (g : ZS) : Option (Int32 × ZS) :=
  (zrdI g x0 5 6).bind fun v1 =>
  (zwrI g x0 5 6 (v1 - (1 : Int32))).bind fun g2 =>
  (zwrI g2 x0 5 7 (0 : Int32)).bind fun g3 =>
  some ((1 : Int32), g3)

def f_X5_close (N : Nat) (x0 : Nat)  (g : ZS) : Option (Int32 × ZS) :=
  (zrdI g x0 5 6).bind fun v1 =>
  if 0 < v1 then
    zvs g x0 5 <| (f_X5_release N x0 (1 : Int32) g).bind fun g2 =>
    (zrdI g2 x0 5 5).bind fun v3 =>
    if v3 ≤ 0 then
      f_X5_close_31 N x0 g2
    else
      (zrdI g2 x0 5 5).bind fun v4 =>
      (zwrI g2 x0 5 5 (v4 - (1 : Int32))).bind fun g5 =>
      f_X5_close_31 N x0 g5
  else
    some ((0 : Int32), g)

def f_X5_push_29   (g : ZS) : Option ZS :=
  some g

def f_X5_push (x0 : Nat) (x1 : Int32)  (g : ZS) : Option ZS :=
  (zrdI g x0 5 5).bind fun v1 =>
  if (40 : Int32) ≤ v1 then
    f_X5_push_29 g
  else
    (zrdR g x0 5 2).bind fun v2 =>
    (zrdI g x0 5 5).bind fun v3 =>
    (zast 20 g v2 v3 x1).bind fun g4 =>
    (zrdI g4 x0 5 5).bind fun v5 =>
    (zwrI g4 x0 5 5 (v5 + (1 : Int32))).bind fun g6 =>
    f_X5_push_29 g6

def f_X5_goOn_58 (N : Nat)   (g : ZS) : Option (Int32 × ZS) :=
  some ((0 : Int32), g)

def f_X5_goOn_75 (N : Nat) (x0 : Nat) (x1 : Int32) (x2 : Int32)  (g : ZS) : Option (Int32 × ZS) :=
  zvs g x0 5 <| (f_X5_release N x0 x2 g).bind fun g1 =>
  zvs g1 x0 5 <| (f_X5_push x0 x1 g1).bind fun g2 =>
  (zwrZ g2 x0 5 8 (0 : Int32)).bind fun g3 =>
  some ((1 : Int32), g3)

def f_X5_goOn_60 (N : Nat) (x0 : Nat) (x1 : Int32) (x2 : Int32)  (g : ZS) : Option (Int32 × ZS) :=
  if x2 = (1 : Int32) then
    (zrdR g x0 5 3).bind fun v1 =>
    (zrdI g x0 5 6).bind fun v2 =>
    (zast 22 g v1 v2 (1 : Int32)).bind fun g3 =>
    f_X5_goOn_75 N x0 x1 x2 g3
  else
    f_X5_goOn_75 N x0 x1 x2 g

def f_X5_goOn_21 (N : Nat) (x0 : Nat) (x1 : Int32)  (g : ZS) : Option (Int32 × ZS) :=
  if x1 = (41 : Int32) then
    zvs g x0 5 <| (f_X5_close N x0 g).bind fun r5 =>
    if vp_nar .boolean r5.1 = r5.1 then some (r5.1, r5.2) else none
  else
    (f_X5_rankOf x1).bind fun v1 =>
    if v1 = 0 then
      f_X5_goOn_58 N g
    else
      if v1 = (1 : Int32) then
        (zrdR g x0 5 3).bind fun v2 =>
        (zrdI g x0 5 6).bind fun v3 =>
        (zald 22 g v2 v3).bind fun v4 =>
        if v4 = 0 then
          f_X5_goOn_60 N x0 x1 v1 g
        else
          f_X5_goOn_58 N g
      else
        f_X5_goOn_60 N x0 x1 v1 g

def f_X5_goOn (N : Nat) (x0 : Nat) (x1 : Int32)  (g : ZS) : Option (Int32 × ZS) :=
  if x1 < (48 : Int32) then
    f_X5_goOn_21 N x0 x1 g
  else
    if (57 : Int32) < x1 then
      f_X5_goOn_21 N x0 x1 g
    else
      zvs g x0 5 <| (f_X5_lengthen x0 (x1 - (48 : Int32)) g).bind fun r1 =>
      if vp_nar .boolean r1.1 = r1.1 then some (r1.1, r1.2) else none

def f_X5_open (x0 : Nat)  (g : ZS) : Option (Int32 × ZS) :=
  (zrdI g x0 5 6).bind fun v1 =>
  if v1 < (4 : Int32) then
    (zrdI g x0 5 6).bind fun v2 =>
    (zwrI g x0 5 6 (v2 + (1 : Int32))).bind fun g3 =>
    (zrdR g3 x0 5 3).bind fun v4 =>
    (zrdI g3 x0 5 6).bind fun v5 =>
    (zast 22 g3 v4 v5 (0 : Int32)).bind fun g6 =>
    zvs g6 x0 5 <| (f_X5_push x0 (40 : Int32) g6).bind fun g7 =>
    some ((1 : Int32), g7)
  else
    some ((0 : Int32), g)

def f_X12_need_16   (g : ZS) : Option ZS :=
  some g

def f_X12_need (x0 : Nat) (x1 : Int32)  (g : ZS) : Option ZS :=
  zvs g x0 12 <| (f_X12_passes x0 x1 g).bind fun r1 =>
  if r1.1 = 0 then
    (zrdI r1.2 x0 12 14).bind fun v2 =>
    zvs r1.2 x0 12 <| (f_X12_fault x0 v2 r1.2).bind fun g3 =>
    f_X12_need_16 g3
  else
    f_X12_need_16 r1.2

def f_X12_number_57 (N : Nat) (x2 : Int32)  (g : ZS) : Option (Int32 × ZS) :=
  some (x2, g)

def f_X12_number_11 (N : Nat) (x0 : Nat) (x1 : Int32) (x2 : Int32) (x3 : Int32)  (g : ZS) : Option ((Int32 × Int32 × ZS) ⊕ (Int32 × ZS)) :=
  if x1 ≤ x3 then
    (
    f_X12_number_57 N x2 g).map Sum.inr
  else
    zvs g x0 12 <| (f_X12_fine x0 g).bind fun v1 =>
    if v1 = 0 then
      (
      f_X12_number_57 N x2 g).map Sum.inr
    else
      zvs g x0 12 <| (f_X12_here x0 g).bind fun v2 =>
      (f_X12_in v2 (48 : Int32) (57 : Int32)).bind fun v3 =>
      if v3 = 0 then
        (
        f_X12_number_57 N x2 g).map Sum.inr
      else
        zvs g x0 12 <| (f_X12_oneOf x0 (48 : Int32) (10 : Int32) g).bind fun r4 =>
        some (.inl (((10 : Int32) * x2) + r4.1, x3 + (1 : Int32), r4.2))

def f_X12_number (N : Nat) (x0 : Nat) (x1 : Int32)  (g : ZS) : Option (Int32 × ZS) :=
  zvs g x0 12 <| (f_X12_oneOf x0 (48 : Int32) (10 : Int32) g).bind fun r1 =>
  zloop (fun s => f_X12_number_11 N x0 x1 s.1 s.2.1 s.2.2) N (r1.1, (1 : Int32), r1.2)

def f_X12_letterOf_72  (s0 : Int32) : Option Int32 :=
  some s0

def f_X12_letterOf (x0 : Int32)  : Option Int32 :=
  if x0 = (110 : Int32) then
    f_X12_letterOf_72 (0 : Int32)
  else
    if x0 = (102 : Int32) then
      f_X12_letterOf_72 (1 : Int32)
    else
      if x0 = (108 : Int32) then
        f_X12_letterOf_72 (2 : Int32)
      else
        if x0 = (116 : Int32) then
          f_X12_letterOf_72 (3 : Int32)
        else
          if x0 = (119 : Int32) then
            f_X12_letterOf_72 (4 : Int32)
          else
            if x0 = (104 : Int32) then
              f_X12_letterOf_72 (5 : Int32)
            else
              if x0 = (118 : Int32) then
                f_X12_letterOf_72 (6 : Int32)
              else
                f_X12_letterOf_72 (-1 : Int32)

def f_X6_isIn_17  (s0 : Int32) (g : ZS) : Option Int32 :=
  if vp_nar .boolean s0 = s0 then some s0 else none

def f_X6_isIn_16   (g : ZS) : Option Int32 :=
  f_X6_isIn_17 (0 : Int32) g

def f_X6_isIn (x0 : Nat) (x1 : Int32)  (g : ZS) : Option Int32 :=
  if x1 < 0 then
    f_X6_isIn_16 g
  else
    (zrdI g x0 6 1).bind fun v1 =>
    if v1 ≤ x1 then
      f_X6_isIn_16 g
    else
      f_X6_isIn_17 (1 : Int32) g

def f_X11_isParrot (x0 : Nat) (x1 : Int32)  (g : ZS) : Option Int32 :=
  (zrdR g x0 11 6).bind fun v1 =>
  zvs g v1 6 <| (f_X6_isIn v1 x1 g).bind fun v2 =>
  if vp_nar .boolean v2 = v2 then some v2 else none

def f_X0_known_27 (N : Nat) (x0 : Nat) (x2 : Int32) (s0 : Int32) (s1 : Int32) (g : ZS) : Option ((Int32 × Int32) ⊕ Int32) :=
  some (.inl (s0 ||| s1, x2 + (1 : Int32)))

def f_X0_known_4 (N : Nat) (x0 : Nat) (x1 : Int32) (x2 : Int32)  (g : ZS) : Option ((Int32 × Int32) ⊕ Int32) :=
  if (8 : Int32) ≤ x2 then
    (
      some x1).map Sum.inr
  else
    (zrdR g x0 0 0).bind fun v1 =>
    (zald 20 g v1 x2).bind fun v2 =>
    if v2 ≤ 0 then
      f_X0_known_27 N x0 x2 x1 (0 : Int32) g
    else
      f_X0_known_27 N x0 x2 x1 ((1 : Int32) <<< (x2 &&& 31)) g

def f_X0_known (N : Nat) (x0 : Nat)  (g : ZS) : Option Int32 :=
  zloop (fun s => f_X0_known_4 N x0 s.1 s.2 g) N ((0 : Int32), (0 : Int32))

def f_X12_isParrot (x0 : Nat) (x1 : Int32)  (g : ZS) : Option Int32 :=
  (zrdI g x0 12 1).bind fun v1 =>
  (f_X12_in x1 (0 : Int32) (v1 - (1 : Int32))).bind fun v2 =>
  if vp_nar .boolean v2 = v2 then some v2 else none

def f_X12_lost (x0 : Nat)  (g : ZS) : Option (Int32 × ZS) :=
  (zwrI g x0 12 10 (1 : Int32)).bind fun g1 =>
  some ((0 : Int32), g1)

def f_X12_hasHeard_17  (s0 : Int32) (g : ZS) : Option Int32 :=
  if vp_nar .boolean s0 = s0 then some s0 else none

def f_X12_hasHeard (x0 : Nat) (x1 : Int32) (x2 : Int32)  (g : ZS) : Option Int32 :=
  (f_X12_of x1 ((4 : Int32) + x2)).bind fun v1 =>
  (zald 20 g x0 v1).bind fun v2 =>
  if v2 ≤ 0 then
    f_X12_hasHeard_17 (0 : Int32) g
  else
    f_X12_hasHeard_17 (1 : Int32) g

def f_X12_heardBits_27 (N : Nat) (x0 : Nat) (x1 : Int32) (x3 : Int32) (s0 : Int32) (s1 : Int32) (g : ZS) : Option ((Int32 × Int32) ⊕ Int32) :=
  some (.inl (s0 ||| s1, x3 + (1 : Int32)))

def f_X12_heardBits_4 (N : Nat) (x0 : Nat) (x1 : Int32) (x2 : Int32) (x3 : Int32)  (g : ZS) : Option ((Int32 × Int32) ⊕ Int32) :=
  if (8 : Int32) ≤ x3 then
    (
      some x2).map Sum.inr
  else
    (f_X12_hasHeard x0 x1 x3 g).bind fun v1 =>
    if v1 = 0 then
      f_X12_heardBits_27 N x0 x1 x3 x2 (0 : Int32) g
    else
      f_X12_heardBits_27 N x0 x1 x3 x2 ((1 : Int32) <<< (x3 &&& 31)) g

def f_X12_heardBits (N : Nat) (x0 : Nat) (x1 : Int32)  (g : ZS) : Option Int32 :=
  zloop (fun s => f_X12_heardBits_4 N x0 x1 s.1 s.2 g) N ((0 : Int32), (0 : Int32))

def f_X12_parrot_22 (N : Nat) (x0 : Nat)  (g : ZS) : Option (Int32 × ZS) :=
  zvs g x0 12 <| (f_X12_lost x0 g).bind fun r1 =>
  some (r1.1, r1.2)

def f_X12_parrot (N : Nat) (x0 : Nat) (x1 : Int32) (x2 : Int32)  (g : ZS) : Option (Int32 × ZS) :=
  (zwrI g x0 12 10 (0 : Int32)).bind fun g1 =>
  zvs g1 x0 12 <| (f_X12_isParrot x0 x1 g1).bind fun v2 =>
  if v2 = 0 then
    f_X12_parrot_22 N x0 g1
  else
    (f_X12_in x2 (0 : Int32) (5 : Int32)).bind fun v3 =>
    if v3 = 0 then
      f_X12_parrot_22 N x0 g1
    else
      zcase x2 [
        ((0 : Int32),
          (zrdR g1 x0 12 0).bind fun v4 =>
          (f_X12_of x1 (0 : Int32)).bind fun v5 =>
          (zald 20 g1 v4 v5).bind fun v6 =>
          some (v6, g1)),
        ((1 : Int32),
          (zrdR g1 x0 12 2).bind fun v7 =>
          (zald 20 g1 v7 x1).bind fun v8 =>
          some (v8, g1)),
        ((2 : Int32),
          (zrdR g1 x0 12 0).bind fun v9 =>
          (f_X12_of x1 (1 : Int32)).bind fun v10 =>
          (zald 20 g1 v9 v10).bind fun v11 =>
          some (v11, g1)),
        ((3 : Int32),
          (zrdR g1 x0 12 0).bind fun v12 =>
          (f_X12_of x1 (2 : Int32)).bind fun v13 =>
          (zald 20 g1 v12 v13).bind fun v14 =>
          some (v14, g1)),
        ((4 : Int32),
          (zrdR g1 x0 12 0).bind fun v15 =>
          (f_X12_heardBits N v15 x1 g1).bind fun v16 =>
          some (v16, g1))] (
        (zrdR g1 x0 12 0).bind fun v17 =>
        (f_X12_of x1 (3 : Int32)).bind fun v18 =>
        (zald 20 g1 v17 v18).bind fun v19 =>
        some (v19, g1))

def f_X12_thrown (x0 : Nat)  (g : ZS) : Option Int32 :=
  (zrdI g x0 12 10).bind fun v1 =>
  some v1

def f_X11_isWord_15  (s0 : Int32) : Option Int32 :=
  if vp_nar .boolean s0 = s0 then some s0 else none

def f_X11_isWord_14   : Option Int32 :=
  f_X11_isWord_15 (0 : Int32)

def f_X11_isWord (x0 : Int32)  : Option Int32 :=
  if x0 < 0 then
    f_X11_isWord_14
  else
    if (8 : Int32) ≤ x0 then
      f_X11_isWord_14
    else
      f_X11_isWord_15 (1 : Int32)

def f_X5_valueOf (x0 : Int32) (x1 : Nat) (x2 : Int32) (x3 : Int32)  (g : ZS) : Option Int32 :=
  zcase x0 [
    ((0 : Int32),
      (zrdR g x1 0 0).bind fun v1 =>
      (zald 20 g v1 x2).bind fun v2 =>
      some v2),
    ((1 : Int32),
      (zrdR g x1 0 1).bind fun v3 =>
      (zald 20 g v3 x2).bind fun v4 =>
      some v4),
    ((2 : Int32),
      (zrdR g x1 0 2).bind fun v5 =>
      (zald 20 g v5 x2).bind fun v6 =>
      some v6),
    ((3 : Int32),
      (zrdR g x1 0 3).bind fun v7 =>
      (zald 20 g v7 x2).bind fun v8 =>
      some v8),
    ((4 : Int32),
      some x2),
    ((5 : Int32),
      (zrdI g x1 0 7).bind fun v9 =>
      some v9)] (
    some x3)

def f_X5_join_70  (s0 : Int32) : Option Int32 :=
  some s0

def f_X5_join_81  (s0 : Int32) : Option Int32 :=
  some s0

def f_X5_join_92  (s0 : Int32) : Option Int32 :=
  some s0

def f_X5_join_116  (s0 : Int32) : Option Int32 :=
  some s0

def f_X5_join (x0 : Int32) (x1 : Int32) (x2 : Int32)  : Option Int32 :=
  zcase x0 [
    ((42 : Int32),
      some (x1 * x2)),
    ((43 : Int32),
      some (x1 + x2)),
    ((45 : Int32),
      some (x1 - x2)),
    ((60 : Int32),
      if x2 ≤ x1 then
        f_X5_join_70 (0 : Int32)
      else
        f_X5_join_70 (1 : Int32)),
    ((61 : Int32),
      if x1 = x2 then
        f_X5_join_92 (1 : Int32)
      else
        f_X5_join_92 (0 : Int32)),
    ((62 : Int32),
      if x1 ≤ x2 then
        f_X5_join_81 (0 : Int32)
      else
        f_X5_join_81 (1 : Int32))] (
    if x2 = 0 then
      f_X5_join_116 (0 : Int32)
    else
      if x2 = 0 then none else
      f_X5_join_116 (x1 / x2))

theorem j_X11_badInParrots_27 {X : ZX} (N : Nat) (x1 : Int32)   (g : ZS) {K : Int32 → Prop} (h0 : ∀ v, K v → xK X (some (.int v)) g) : J Y_X11_badInParrots X 0 0 27 [none, some (.int x1)] [] g (f_X11_badInParrots_27 N x1 g) K := by
  unfold f_X11_badInParrots_27
  refine J_iload_n rfl rfl (show Dc Y_X11_badInParrots 27 (.iload_n 1) 1 28 from ⟨by decide +kernel, rfl⟩) ?_
  exact J_reti (show Dc Y_X11_badInParrots 28 (.ireturn) 1 29 from ⟨by decide +kernel, rfl⟩) rfl (h0 _) (by decide) (by decide)

theorem j_X11_badInParrots_59 {X : ZX} (N : Nat)  (s0 : Int32)  (g : ZS) {K : Int32 → Prop} (h0 : ∀ v, K v → xK X (some (.int v)) g) : J Y_X11_badInParrots X 0 0 59 [none, none] [.int s0] g (f_X11_badInParrots_59 N s0 g) K := by
  unfold f_X11_badInParrots_59
  exact J_reti (show Dc Y_X11_badInParrots 59 (.ireturn) 1 60 from ⟨by decide +kernel, rfl⟩) rfl (h0 _) (by decide) (by decide)

theorem j_X11_badInParrots_2 {X : ZX} (N : Nat) (x0 : Nat) (x1 : Int32)   (g : ZS) {K : ((Int32) ⊕ Int32) → Prop} (h0 : ∀ v, K (.inr v) → xK X (some (.int v)) g) (hL2 : ∀ s, K (.inl s) → zG Y_X11_badInParrots X 0 0 2 [some (.ref x0), some (.int s)] [] g) : J Y_X11_badInParrots X 0 0 2 [some (.ref x0), some (.int x1)] [] g (f_X11_badInParrots_2 N x0 x1 g) K := by
  unfold f_X11_badInParrots_2
  refine J_iload_n rfl rfl (show Dc Y_X11_badInParrots 2 (.iload_n 1) 1 3 from ⟨by decide +kernel, rfl⟩) ?_
  refine J_aload_n rfl rfl (show Dc Y_X11_badInParrots 3 (.aload_n 0) 1 4 from ⟨by decide +kernel, rfl⟩) ?_
  refine J_getR (show Dc Y_X11_badInParrots 4 (.getfield 10) 3 7 from ⟨by decide +kernel, rfl⟩) w_f_RX11_10 rfl (fun v1 => ?_)
  refine J_getI (show Dc Y_X11_badInParrots 7 (.getfield 110) 3 10 from ⟨by decide +kernel, rfl⟩) w_f_RX11_110 rfl (fun v2 => ?_)
  refine J_icmp_ge (tg := 35) (show Dc Y_X11_badInParrots 10 (.if_icmp .ge 25) 3 13 from ⟨by decide +kernel, rfl⟩) (by decide) (fun h => ?_) (fun h => ?_)
  · refine J_map (f := Sum.inr) (fun _ h => h) ?_
    refine J_aload_n rfl rfl (show Dc Y_X11_badInParrots 35 (.aload_n 0) 1 36 from ⟨by decide +kernel, rfl⟩) ?_
    refine J_getR (show Dc Y_X11_badInParrots 36 (.getfield 10) 3 39 from ⟨by decide +kernel, rfl⟩) w_f_RX11_10 rfl (fun v3 => ?_)
    refine J_getI (show Dc Y_X11_badInParrots 39 (.getfield 110) 3 42 from ⟨by decide +kernel, rfl⟩) w_f_RX11_110 rfl (fun v4 => ?_)
    refine J_iconst (3 : Int32) rfl (show Dc Y_X11_badInParrots 42 (.iconst 3) 1 43 from ⟨by decide +kernel, rfl⟩) ?_
    refine J_iremC (by decide) (show Dc Y_X11_badInParrots 43 (.irem) 1 44 from ⟨by decide +kernel, rfl⟩) ?_
    refine J_iconst (2 : Int32) rfl (show Dc Y_X11_badInParrots 44 (.iconst 2) 1 45 from ⟨by decide +kernel, rfl⟩) ?_
    refine J_icmp_ne (tg := 52) (show Dc Y_X11_badInParrots 45 (.if_icmp .ne 7) 3 48 from ⟨by decide +kernel, rfl⟩) (by decide) (fun h => ?_) (fun h => ?_)
    · refine J_aload_n rfl rfl (show Dc Y_X11_badInParrots 52 (.aload_n 0) 1 53 from ⟨by decide +kernel, rfl⟩) ?_
      refine J_getR (show Dc Y_X11_badInParrots 53 (.getfield 10) 3 56 from ⟨by decide +kernel, rfl⟩) w_f_RX11_10 rfl (fun v5 => ?_)
      refine J_getI (show Dc Y_X11_badInParrots 56 (.getfield 110) 3 59 from ⟨by decide +kernel, rfl⟩) w_f_RX11_110 rfl (fun v6 => ?_)
      refine J_mask [false, false] ?_
      exact j_X11_badInParrots_59 (K := fun o => K (.inr o)) N v6 g h0
    · refine J_iconst (-1 : Int32) rfl (show Dc Y_X11_badInParrots 48 (.iconst (-1)) 1 49 from ⟨by decide +kernel, rfl⟩) ?_
      refine J_goto (tg := 59) (show Dc Y_X11_badInParrots 49 (.goto 10) 3 52 from ⟨by decide +kernel, rfl⟩) (by decide) ?_
      refine J_mask [false, false] ?_
      exact j_X11_badInParrots_59 (K := fun o => K (.inr o)) N (-1 : Int32) g h0
  · refine J_iload_n rfl rfl (show Dc Y_X11_badInParrots 13 (.iload_n 1) 1 14 from ⟨by decide +kernel, rfl⟩) ?_
    refine J_bipush (17 : Int32) rfl (show Dc Y_X11_badInParrots 14 (.bipush 17) 2 16 from ⟨by decide +kernel, rfl⟩) ?_
    refine J_icmp_ge (tg := 27) (show Dc Y_X11_badInParrots 16 (.if_icmp .ge 11) 3 19 from ⟨by decide +kernel, rfl⟩) (by decide) (fun h => ?_) (fun h => ?_)
    · refine J_mask [false, true] ?_
      refine J_map (f := Sum.inr) (fun _ h => h) ?_
      exact j_X11_badInParrots_27 (K := fun o => K (.inr o)) N x1 g h0
    · refine J_aload_n rfl rfl (show Dc Y_X11_badInParrots 19 (.aload_n 0) 1 20 from ⟨by decide +kernel, rfl⟩) ?_
      refine J_iload_n rfl rfl (show Dc Y_X11_badInParrots 20 (.iload_n 1) 1 21 from ⟨by decide +kernel, rfl⟩) ?_
      refine J_callVi (fun r => r) (fun _ => g) (show Dc Y_X11_badInParrots 21 (.invokevirtual 143) 3 24 from ⟨by decide +kernel, rfl⟩) w_m_RX11_143 w_in_X11_standsInParrots rfl w_se_X11_standsInParrots w_cw_X11_standsInParrots (c_X11_standsInParrots x0 x1 g) rfl rfl (by decide) (Nat.le_of_ble_eq_true rfl) (by decide) (by decide) (fun v7 => ?_)
      refine J_if_ne (tg := 29) (show Dc Y_X11_badInParrots 24 (.ifCond .ne 5) 3 27 from ⟨by decide +kernel, rfl⟩) (by decide) (fun h => ?_) (fun h => ?_)
      · refine J_iinc (1 : Int32) [some (.ref x0), some (.int (x1 + (1 : Int32)))] (show Dc Y_X11_badInParrots 29 (.iinc 1 1) 3 32 from ⟨by decide +kernel, rfl⟩) rfl rfl (by decide) rfl rfl ?_
        refine J_goto (tg := 2) (show Dc Y_X11_badInParrots 32 (.goto (-30)) 3 35 from ⟨by decide +kernel, rfl⟩) (by decide) ?_
        exact J_leaf (fun h => hL2 (x1 + (1 : Int32)) h)
      · refine J_mask [false, true] ?_
        refine J_map (f := Sum.inr) (fun _ h => h) ?_
        exact j_X11_badInParrots_27 (K := fun o => K (.inr o)) N x1 g h0

theorem j_X11_badInParrots {X : ZX} (N : Nat) (x0 : Nat)   (g : ZS) {K : Int32 → Prop} (h0 : ∀ v, K v → xK X (some (.int v)) g) : J Y_X11_badInParrots X 0 0 0 [some (.ref x0), none] [] g (f_X11_badInParrots N x0 g) K := by
  unfold f_X11_badInParrots
  refine J_iconst (0 : Int32) rfl (show Dc Y_X11_badInParrots 0 (.iconst 0) 1 1 from ⟨by decide +kernel, rfl⟩) ?_
  refine J_istore_n [some (.ref x0), some (.int (0 : Int32))] (show Dc Y_X11_badInParrots 1 (.istore_n 1) 1 2 from ⟨by decide +kernel, rfl⟩) rfl (by decide) rfl rfl ?_
  exact J_loop (X := X) (K := K) (uc := fun _ => 0) (us := fun _ => 0) (lf := fun s => [some (.ref x0), some (.int s)]) (gf := fun s => g) (fun s => j_X11_badInParrots_2 (K := zKl Y_X11_badInParrots X 2 (fun _ => 0) (fun _ => 0) (fun s => [some (.ref x0), some (.int s)]) (fun s => g) K) N x0 s g h0 (fun s h => h)) N (0 : Int32)

theorem c_X11_badInParrots {l : Launch} {D : ZD} {B0 : Nat} (N : Nat) (x0 : Nat) (g : ZS) : ∀ r, f_X11_badInParrots N x0 g = some r → zCt l D B0 yX11_badInParrots Y_X11_badInParrots [.ref x0] g (some (.int r)) g :=
  zCt_ofF (vo := fun r => some (.int r)) (so := fun _ => g) (by decide +kernel) rfl (fun h => by cases h) rfl (Nat.le_of_ble_eq_true rfl) (fun X => j_X11_badInParrots N x0 g (fun _ h => h))

theorem j_X6_welcome_45 {X : ZX}    (g : ZS) {K : ZS → Prop} (h0 : ∀ g, K g → xK X none g) : J Y_X6_welcome X 0 0 45 [none, none, none] [] g (f_X6_welcome_45 g) K := by
  unfold f_X6_welcome_45
  exact J_ret0 (show Dc Y_X6_welcome 45 (.return_) 1 46 from ⟨by decide +kernel, rfl⟩) rfl (h0 _) (by decide) (by decide)

theorem j_X6_welcome {X : ZX} (x0 : Nat) (x1 : Int32) (x2 : Int32)   (g : ZS) {K : ZS → Prop} (h0 : ∀ g, K g → xK X none g) : J Y_X6_welcome X 0 0 0 [some (.ref x0), some (.int x1), some (.int x2)] [] g (f_X6_welcome x0 x1 x2 g) K := by
  unfold f_X6_welcome
  refine J_aload_n rfl rfl (show Dc Y_X6_welcome 0 (.aload_n 0) 1 1 from ⟨by decide +kernel, rfl⟩) ?_
  refine J_getI (show Dc Y_X6_welcome 1 (.getfield 18) 3 4 from ⟨by decide +kernel, rfl⟩) w_f_RX6_18 rfl (fun v1 => ?_)
  refine J_bipush (6 : Int32) rfl (show Dc Y_X6_welcome 4 (.bipush 6) 2 6 from ⟨by decide +kernel, rfl⟩) ?_
  refine J_icmp_ge (tg := 45) (show Dc Y_X6_welcome 6 (.if_icmp .ge 39) 3 9 from ⟨by decide +kernel, rfl⟩) (by decide) (fun h => ?_) (fun h => ?_)
  · refine J_mask [false, false, false] ?_
    exact j_X6_welcome_45 g h0
  · refine J_aload_n rfl rfl (show Dc Y_X6_welcome 9 (.aload_n 0) 1 10 from ⟨by decide +kernel, rfl⟩) ?_
    refine J_getR (show Dc Y_X6_welcome 10 (.getfield 11) 3 13 from ⟨by decide +kernel, rfl⟩) w_f_RX6_11 rfl (fun v2 => ?_)
    refine J_aload_n rfl rfl (show Dc Y_X6_welcome 13 (.aload_n 0) 1 14 from ⟨by decide +kernel, rfl⟩) ?_
    refine J_getI (show Dc Y_X6_welcome 14 (.getfield 18) 3 17 from ⟨by decide +kernel, rfl⟩) w_f_RX6_18 rfl (fun v3 => ?_)
    refine J_aald (kd := 25) (by decide) (by decide) (show Dc Y_X6_welcome 17 (.aaload) 1 18 from ⟨by decide +kernel, rfl⟩) (fun v4 => ?_)
    refine J_iload_n rfl rfl (show Dc Y_X6_welcome 18 (.iload_n 1) 1 19 from ⟨by decide +kernel, rfl⟩) ?_
    refine J_putI (show Dc Y_X6_welcome 19 (.putfield 29) 3 22 from ⟨by decide +kernel, rfl⟩) w_f_RX6_29 rfl rfl (fun g5 => ?_) (fun h => by cases h)
    refine J_aload_n rfl rfl (show Dc Y_X6_welcome 22 (.aload_n 0) 1 23 from ⟨by decide +kernel, rfl⟩) ?_
    refine J_getR (show Dc Y_X6_welcome 23 (.getfield 11) 3 26 from ⟨by decide +kernel, rfl⟩) w_f_RX6_11 rfl (fun v6 => ?_)
    refine J_aload_n rfl rfl (show Dc Y_X6_welcome 26 (.aload_n 0) 1 27 from ⟨by decide +kernel, rfl⟩) ?_
    refine J_getI (show Dc Y_X6_welcome 27 (.getfield 18) 3 30 from ⟨by decide +kernel, rfl⟩) w_f_RX6_18 rfl (fun v7 => ?_)
    refine J_aald (kd := 25) (by decide) (by decide) (show Dc Y_X6_welcome 30 (.aaload) 1 31 from ⟨by decide +kernel, rfl⟩) (fun v8 => ?_)
    refine J_iload_n rfl rfl (show Dc Y_X6_welcome 31 (.iload_n 2) 1 32 from ⟨by decide +kernel, rfl⟩) ?_
    refine J_putI (show Dc Y_X6_welcome 32 (.putfield 32) 3 35 from ⟨by decide +kernel, rfl⟩) w_f_RX6_32 rfl rfl (fun g9 => ?_) (fun h => by cases h)
    refine J_aload_n rfl rfl (show Dc Y_X6_welcome 35 (.aload_n 0) 1 36 from ⟨by decide +kernel, rfl⟩) ?_
    refine J_dup rfl (show Dc Y_X6_welcome 36 (.dup) 1 37 from ⟨by decide +kernel, rfl⟩) ?_
    refine J_getI (show Dc Y_X6_welcome 37 (.getfield 18) 3 40 from ⟨by decide +kernel, rfl⟩) w_f_RX6_18 rfl (fun v10 => ?_)
    refine J_iconst (1 : Int32) rfl (show Dc Y_X6_welcome 40 (.iconst 1) 1 41 from ⟨by decide +kernel, rfl⟩) ?_
    refine J_iadd (show Dc Y_X6_welcome 41 (.iadd) 1 42 from ⟨by decide +kernel, rfl⟩) ?_
    refine J_putI (show Dc Y_X6_welcome 42 (.putfield 18) 3 45 from ⟨by decide +kernel, rfl⟩) w_f_RX6_18 rfl rfl (fun g11 => ?_) (fun h => by cases h)
    refine J_mask [false, false, false] ?_
    exact j_X6_welcome_45 g11 h0

theorem c_X6_welcome {l : Launch} {D : ZD} {B0 : Nat} (x0 : Nat) (x1 : Int32) (x2 : Int32) (g : ZS) : ∀ r, f_X6_welcome x0 x1 x2 g = some r → zCt l D B0 yX6_welcome Y_X6_welcome [.ref x0, .int x1, .int x2] g none r :=
  zCt_ofF (vo := fun _ => none) (so := fun r => r) (by decide +kernel) rfl (fun h => by cases h) rfl (Nat.le_of_ble_eq_true rfl) (fun X => j_X6_welcome x0 x1 x2 g (fun _ h => h))

theorem j_X11_readParrots_40 {X : ZX} (N : Nat) (x0 : Nat) (x2 : Int32) (x3 : Int32)   (g : ZS) {K : ((Int32 × ZS) ⊕ (Int32 × ZS)) → Prop} (h0 : ∀ v g, K (.inr (v, g)) → xK X (some (.int v)) g) (hL40 : ∀ s, K (.inl s) → zG Y_X11_readParrots X 0 0 40 [some (.ref x0), none, some (.int x2), some (.int s.1)] [] s.2) : J Y_X11_readParrots X 0 0 40 [some (.ref x0), none, some (.int x2), some (.int x3)] [] g (f_X11_readParrots_40 N x0 x2 x3 g) K := by
  unfold f_X11_readParrots_40
  refine J_iload_n rfl rfl (show Dc Y_X11_readParrots 40 (.iload_n 3) 1 41 from ⟨by decide +kernel, rfl⟩) ?_
  refine J_iload_n rfl rfl (show Dc Y_X11_readParrots 41 (.iload_n 2) 1 42 from ⟨by decide +kernel, rfl⟩) ?_
  refine J_icmp_ge (tg := 80) (show Dc Y_X11_readParrots 42 (.if_icmp .ge 38) 3 45 from ⟨by decide +kernel, rfl⟩) (by decide) (fun h => ?_) (fun h => ?_)
  · refine J_map (f := Sum.inr) (fun _ h => h) ?_
    refine J_aload_n rfl rfl (show Dc Y_X11_readParrots 80 (.aload_n 0) 1 81 from ⟨by decide +kernel, rfl⟩) ?_
    refine J_getR (show Dc Y_X11_readParrots 81 (.getfield 57) 3 84 from ⟨by decide +kernel, rfl⟩) w_f_RX11_57 rfl (fun v1 => ?_)
    refine J_iconst (0 : Int32) rfl (show Dc Y_X11_readParrots 84 (.iconst 0) 1 85 from ⟨by decide +kernel, rfl⟩) ?_
    refine J_putI (show Dc Y_X11_readParrots 85 (.putfield 142) 3 88 from ⟨by decide +kernel, rfl⟩) w_f_RX11_142 rfl rfl (fun g2 => ?_) (fun h => by cases h)
    refine J_iload_n rfl rfl (show Dc Y_X11_readParrots 88 (.iload_n 2) 1 89 from ⟨by decide +kernel, rfl⟩) ?_
    exact J_reti (show Dc Y_X11_readParrots 89 (.ireturn) 1 90 from ⟨by decide +kernel, rfl⟩) rfl (h0 _ _) (by decide) (by decide)
  · refine J_aload_n rfl rfl (show Dc Y_X11_readParrots 45 (.aload_n 0) 1 46 from ⟨by decide +kernel, rfl⟩) ?_
    refine J_getR (show Dc Y_X11_readParrots 46 (.getfield 47) 3 49 from ⟨by decide +kernel, rfl⟩) w_f_RX11_47 rfl (fun v3 => ?_)
    refine J_aload_n rfl rfl (show Dc Y_X11_readParrots 49 (.aload_n 0) 1 50 from ⟨by decide +kernel, rfl⟩) ?_
    refine J_getR (show Dc Y_X11_readParrots 50 (.getfield 10) 3 53 from ⟨by decide +kernel, rfl⟩) w_f_RX11_10 rfl (fun v4 => ?_)
    refine J_iconst (3 : Int32) rfl (show Dc Y_X11_readParrots 53 (.iconst 3) 1 54 from ⟨by decide +kernel, rfl⟩) ?_
    refine J_iload_n rfl rfl (show Dc Y_X11_readParrots 54 (.iload_n 3) 1 55 from ⟨by decide +kernel, rfl⟩) ?_
    refine J_imul (show Dc Y_X11_readParrots 55 (.imul) 1 56 from ⟨by decide +kernel, rfl⟩) ?_
    refine J_callVi (fun r => r) (fun _ => g) (show Dc Y_X11_readParrots 56 (.invokevirtual 135) 3 59 from ⟨by decide +kernel, rfl⟩) w_m_RX11_135 w_in_X8_digitAt rfl w_se_X8_digitAt w_cw_X8_digitAt (c_X8_digitAt v4 ((3 : Int32) * x3) g) rfl rfl (by decide) (Nat.le_of_ble_eq_true rfl) (by decide) (by decide) (fun v5 => ?_)
    refine J_aload_n rfl rfl (show Dc Y_X11_readParrots 59 (.aload_n 0) 1 60 from ⟨by decide +kernel, rfl⟩) ?_
    refine J_getR (show Dc Y_X11_readParrots 60 (.getfield 10) 3 63 from ⟨by decide +kernel, rfl⟩) w_f_RX11_10 rfl (fun v6 => ?_)
    refine J_iconst (3 : Int32) rfl (show Dc Y_X11_readParrots 63 (.iconst 3) 1 64 from ⟨by decide +kernel, rfl⟩) ?_
    refine J_iload_n rfl rfl (show Dc Y_X11_readParrots 64 (.iload_n 3) 1 65 from ⟨by decide +kernel, rfl⟩) ?_
    refine J_imul (show Dc Y_X11_readParrots 65 (.imul) 1 66 from ⟨by decide +kernel, rfl⟩) ?_
    refine J_iconst (1 : Int32) rfl (show Dc Y_X11_readParrots 66 (.iconst 1) 1 67 from ⟨by decide +kernel, rfl⟩) ?_
    refine J_iadd (show Dc Y_X11_readParrots 67 (.iadd) 1 68 from ⟨by decide +kernel, rfl⟩) ?_
    refine J_callVi (fun r => r) (fun _ => g) (show Dc Y_X11_readParrots 68 (.invokevirtual 135) 3 71 from ⟨by decide +kernel, rfl⟩) w_m_RX11_135 w_in_X8_digitAt rfl w_se_X8_digitAt w_cw_X8_digitAt (c_X8_digitAt v6 (((3 : Int32) * x3) + (1 : Int32)) g) rfl rfl (by decide) (Nat.le_of_ble_eq_true rfl) (by decide) (by decide) (fun v7 => ?_)
    refine J_callVv (fun r => r) (show Dc Y_X11_readParrots 71 (.invokevirtual 138) 3 74 from ⟨by decide +kernel, rfl⟩) w_m_RX11_138 w_in_X6_welcome rfl w_se_X6_welcome w_cw_X6_welcome (c_X6_welcome v3 v5 v7 g) rfl rfl (by decide) (Nat.le_of_ble_eq_true rfl) (by decide) (by decide) (fun g8 => ?_)
    refine J_iinc (1 : Int32) [some (.ref x0), none, some (.int x2), some (.int (x3 + (1 : Int32)))] (show Dc Y_X11_readParrots 74 (.iinc 3 1) 3 77 from ⟨by decide +kernel, rfl⟩) rfl rfl (by decide) rfl rfl ?_
    refine J_goto (tg := 40) (show Dc Y_X11_readParrots 77 (.goto (-37)) 3 80 from ⟨by decide +kernel, rfl⟩) (by decide) ?_
    exact J_leaf (fun h => hL40 (x3 + (1 : Int32), g8) h)

theorem j_X11_readParrots {X : ZX} (N : Nat) (x0 : Nat)   (g : ZS) {K : (Int32 × ZS) → Prop} (h0 : ∀ v g, K (v, g) → xK X (some (.int v)) g) : J Y_X11_readParrots X 0 0 0 [some (.ref x0), none, none, none] [] g (f_X11_readParrots N x0 g) K := by
  unfold f_X11_readParrots
  refine J_aload_n rfl rfl (show Dc Y_X11_readParrots 0 (.aload_n 0) 1 1 from ⟨by decide +kernel, rfl⟩) ?_
  refine J_getR (show Dc Y_X11_readParrots 1 (.getfield 10) 3 4 from ⟨by decide +kernel, rfl⟩) w_f_RX11_10 rfl (fun v1 => ?_)
  refine J_getI (show Dc Y_X11_readParrots 4 (.getfield 110) 3 7 from ⟨by decide +kernel, rfl⟩) w_f_RX11_110 rfl (fun v2 => ?_)
  refine J_if_ne (tg := 12) (show Dc Y_X11_readParrots 7 (.ifCond .ne 5) 3 10 from ⟨by decide +kernel, rfl⟩) (by decide) (fun h => ?_) (fun h => ?_)
  · refine J_aload_n rfl rfl (show Dc Y_X11_readParrots 12 (.aload_n 0) 1 13 from ⟨by decide +kernel, rfl⟩) ?_
    refine J_callVi (fun r => r) (fun _ => g) (show Dc Y_X11_readParrots 13 (.invokevirtual 132) 3 16 from ⟨by decide +kernel, rfl⟩) w_m_RX11_132 w_in_X11_badInParrots rfl w_se_X11_badInParrots w_cw_X11_badInParrots (c_X11_badInParrots N x0 g) rfl rfl (by decide) (Nat.le_of_ble_eq_true rfl) (by decide) (by decide) (fun v3 => ?_)
    refine J_istore_n [some (.ref x0), some (.int v3), none, none] (show Dc Y_X11_readParrots 16 (.istore_n 1) 1 17 from ⟨by decide +kernel, rfl⟩) rfl (by decide) rfl rfl ?_
    refine J_iload_n rfl rfl (show Dc Y_X11_readParrots 17 (.iload_n 1) 1 18 from ⟨by decide +kernel, rfl⟩) ?_
    refine J_iconst (-1 : Int32) rfl (show Dc Y_X11_readParrots 18 (.iconst (-1)) 1 19 from ⟨by decide +kernel, rfl⟩) ?_
    refine J_icmp_eq (tg := 26) (show Dc Y_X11_readParrots 19 (.if_icmp .eq 7) 3 22 from ⟨by decide +kernel, rfl⟩) (by decide) (fun h => ?_) (fun h => ?_)
    · refine J_aload_n rfl rfl (show Dc Y_X11_readParrots 26 (.aload_n 0) 1 27 from ⟨by decide +kernel, rfl⟩) ?_
      refine J_getR (show Dc Y_X11_readParrots 27 (.getfield 10) 3 30 from ⟨by decide +kernel, rfl⟩) w_f_RX11_10 rfl (fun v4 => ?_)
      refine J_getI (show Dc Y_X11_readParrots 30 (.getfield 110) 3 33 from ⟨by decide +kernel, rfl⟩) w_f_RX11_110 rfl (fun v5 => ?_)
      refine J_iconst (1 : Int32) rfl (show Dc Y_X11_readParrots 33 (.iconst 1) 1 34 from ⟨by decide +kernel, rfl⟩) ?_
      refine J_iadd (show Dc Y_X11_readParrots 34 (.iadd) 1 35 from ⟨by decide +kernel, rfl⟩) ?_
      refine J_iconst (3 : Int32) rfl (show Dc Y_X11_readParrots 35 (.iconst 3) 1 36 from ⟨by decide +kernel, rfl⟩) ?_
      refine J_idivC (by decide) (show Dc Y_X11_readParrots 36 (.idiv) 1 37 from ⟨by decide +kernel, rfl⟩) ?_
      refine J_istore_n [some (.ref x0), some (.int v3), some (.int ((v5 + (1 : Int32)) / (3 : Int32))), none] (show Dc Y_X11_readParrots 37 (.istore_n 2) 1 38 from ⟨by decide +kernel, rfl⟩) rfl (by decide) rfl rfl ?_
      refine J_iconst (0 : Int32) rfl (show Dc Y_X11_readParrots 38 (.iconst 0) 1 39 from ⟨by decide +kernel, rfl⟩) ?_
      refine J_istore_n [some (.ref x0), some (.int v3), some (.int ((v5 + (1 : Int32)) / (3 : Int32))), some (.int (0 : Int32))] (show Dc Y_X11_readParrots 39 (.istore_n 3) 1 40 from ⟨by decide +kernel, rfl⟩) rfl (by decide) rfl rfl ?_
      refine J_mask [true, false, true, true] ?_
      exact J_loop (X := X) (K := K) (uc := fun _ => 0) (us := fun _ => 0) (lf := fun s => [some (.ref x0), none, some (.int ((v5 + (1 : Int32)) / (3 : Int32))), some (.int s.1)]) (gf := fun s => s.2) (fun s => j_X11_readParrots_40 (K := zKl Y_X11_readParrots X 40 (fun _ => 0) (fun _ => 0) (fun s => [some (.ref x0), none, some (.int ((v5 + (1 : Int32)) / (3 : Int32))), some (.int s.1)]) (fun s => s.2) K) N x0 ((v5 + (1 : Int32)) / (3 : Int32)) s.1 s.2 h0 (fun s h => h)) N ((0 : Int32), g)
    · refine J_iconst (-1 : Int32) rfl (show Dc Y_X11_readParrots 22 (.iconst (-1)) 1 23 from ⟨by decide +kernel, rfl⟩) ?_
      refine J_iload_n rfl rfl (show Dc Y_X11_readParrots 23 (.iload_n 1) 1 24 from ⟨by decide +kernel, rfl⟩) ?_
      refine J_isub (show Dc Y_X11_readParrots 24 (.isub) 1 25 from ⟨by decide +kernel, rfl⟩) ?_
      exact J_reti (show Dc Y_X11_readParrots 25 (.ireturn) 1 26 from ⟨by decide +kernel, rfl⟩) rfl (h0 _ _) (by decide) (by decide)
  · refine J_iconst (0 : Int32) rfl (show Dc Y_X11_readParrots 10 (.iconst 0) 1 11 from ⟨by decide +kernel, rfl⟩) ?_
    exact J_reti (show Dc Y_X11_readParrots 11 (.ireturn) 1 12 from ⟨by decide +kernel, rfl⟩) rfl (h0 _ _) (by decide) (by decide)

theorem c_X11_readParrots {l : Launch} {D : ZD} {B0 : Nat} (N : Nat) (x0 : Nat) (g : ZS) : ∀ r, f_X11_readParrots N x0 g = some r → zCt l D B0 yX11_readParrots Y_X11_readParrots [.ref x0] g (some (.int r.1)) r.2 :=
  zCt_ofF (vo := fun r => some (.int r.1)) (so := fun r => r.2) (by decide +kernel) rfl (fun h => by cases h) rfl (Nat.le_of_ble_eq_true rfl) (fun X => j_X11_readParrots N x0 g (fun _ _ h => h))

theorem j_X11_parrots {X : ZX} (N : Nat) (x0 : Nat)   (g : ZS) {K : (Int32 × ZS) → Prop} (h0 : ∀ v g, K (v, g) → xK X (some (.int v)) g) : J Y_X11_parrots X 0 0 0 [some (.ref x0), none] [] g (f_X11_parrots N x0 g) K := by
  unfold f_X11_parrots
  refine J_aload_n rfl rfl (show Dc Y_X11_parrots 0 (.aload_n 0) 1 1 from ⟨by decide +kernel, rfl⟩) ?_
  refine J_callVi (fun r => r.1) (fun r => r.2) (show Dc Y_X11_parrots 1 (.invokevirtual 129) 3 4 from ⟨by decide +kernel, rfl⟩) w_m_RX11_129 w_in_X11_readParrots rfl w_se_X11_readParrots w_cw_X11_readParrots (c_X11_readParrots N x0 g) rfl rfl (by decide) (Nat.le_of_ble_eq_true rfl) (by decide) (by decide) (fun r1 => ?_)
  refine J_istore_n [some (.ref x0), some (.int r1.1)] (show Dc Y_X11_parrots 4 (.istore_n 1) 1 5 from ⟨by decide +kernel, rfl⟩) rfl (by decide) rfl rfl ?_
  refine J_aload_n rfl rfl (show Dc Y_X11_parrots 5 (.aload_n 0) 1 6 from ⟨by decide +kernel, rfl⟩) ?_
  refine J_getR (show Dc Y_X11_parrots 6 (.getfield 10) 3 9 from ⟨by decide +kernel, rfl⟩) w_f_RX11_10 rfl (fun v2 => ?_)
  refine J_iconst (0 : Int32) rfl (show Dc Y_X11_parrots 9 (.iconst 0) 1 10 from ⟨by decide +kernel, rfl⟩) ?_
  refine J_putI (show Dc Y_X11_parrots 10 (.putfield 110) 3 13 from ⟨by decide +kernel, rfl⟩) w_f_RX11_110 rfl rfl (fun g3 => ?_) (fun h => by cases h)
  refine J_iload_n rfl rfl (show Dc Y_X11_parrots 13 (.iload_n 1) 1 14 from ⟨by decide +kernel, rfl⟩) ?_
  exact J_reti (show Dc Y_X11_parrots 14 (.ireturn) 1 15 from ⟨by decide +kernel, rfl⟩) rfl (h0 _ _) (by decide) (by decide)

theorem c_X11_parrots {l : Launch} {D : ZD} {B0 : Nat} (N : Nat) (x0 : Nat) (g : ZS) : ∀ r, f_X11_parrots N x0 g = some r → zCt l D B0 yX11_parrots Y_X11_parrots [.ref x0] g (some (.int r.1)) r.2 :=
  zCt_ofF (vo := fun r => some (.int r.1)) (so := fun r => r.2) (by decide +kernel) rfl (fun h => by cases h) rfl (Nat.le_of_ble_eq_true rfl) (fun X => j_X11_parrots N x0 g (fun _ _ h => h))

theorem j_X12_passes_15 {X : ZX}    (g : ZS) {K : (Int32 × ZS) → Prop} (h0 : ∀ v g, K (v, g) → xK X (some (.int v)) g) : J Y_X12_passes X 0 0 15 [none, none] [] g (f_X12_passes_15 g) K := by
  unfold f_X12_passes_15
  refine J_iconst (0 : Int32) rfl (show Dc Y_X12_passes 15 (.iconst 0) 1 16 from ⟨by decide +kernel, rfl⟩) ?_
  exact J_retz rfl (show Dc Y_X12_passes 16 (.ireturn) 1 17 from ⟨by decide +kernel, rfl⟩) rfl (h0 _ _) (by decide) (by decide)

theorem j_X12_passes {X : ZX} (x0 : Nat) (x1 : Int32)   (g : ZS) {K : (Int32 × ZS) → Prop} (h0 : ∀ v g, K (v, g) → xK X (some (.int v)) g) : J Y_X12_passes X 0 0 0 [some (.ref x0), some (.int x1)] [] g (f_X12_passes x0 x1 g) K := by
  unfold f_X12_passes
  refine J_aload_n rfl rfl (show Dc Y_X12_passes 0 (.aload_n 0) 1 1 from ⟨by decide +kernel, rfl⟩) ?_
  refine J_callVi (fun r => r) (fun _ => g) (show Dc Y_X12_passes 1 (.invokevirtual 145) 3 4 from ⟨by decide +kernel, rfl⟩) w_m_RX12_145 w_in_X12_fine rfl w_se_X12_fine w_cw_X12_fine (c_X12_fine x0 g) rfl rfl (by decide) (Nat.le_of_ble_eq_true rfl) (by decide) (by decide) (fun v1 => ?_)
  refine J_if_eq (tg := 15) (show Dc Y_X12_passes 4 (.ifCond .eq 11) 3 7 from ⟨by decide +kernel, rfl⟩) (by decide) (fun h => ?_) (fun h => ?_)
  · refine J_mask [false, false] ?_
    exact j_X12_passes_15 g h0
  · refine J_aload_n rfl rfl (show Dc Y_X12_passes 7 (.aload_n 0) 1 8 from ⟨by decide +kernel, rfl⟩) ?_
    refine J_callVi (fun r => r) (fun _ => g) (show Dc Y_X12_passes 8 (.invokevirtual 149) 3 11 from ⟨by decide +kernel, rfl⟩) w_m_RX12_149 w_in_X12_here rfl w_se_X12_here w_cw_X12_here (c_X12_here x0 g) rfl rfl (by decide) (Nat.le_of_ble_eq_true rfl) (by decide) (by decide) (fun v2 => ?_)
    refine J_iload_n rfl rfl (show Dc Y_X12_passes 11 (.iload_n 1) 1 12 from ⟨by decide +kernel, rfl⟩) ?_
    refine J_icmp_eq (tg := 17) (show Dc Y_X12_passes 12 (.if_icmp .eq 5) 3 15 from ⟨by decide +kernel, rfl⟩) (by decide) (fun h => ?_) (fun h => ?_)
    · refine J_aload_n rfl rfl (show Dc Y_X12_passes 17 (.aload_n 0) 1 18 from ⟨by decide +kernel, rfl⟩) ?_
      refine J_dup rfl (show Dc Y_X12_passes 18 (.dup) 1 19 from ⟨by decide +kernel, rfl⟩) ?_
      refine J_getI (show Dc Y_X12_passes 19 (.getfield 135) 3 22 from ⟨by decide +kernel, rfl⟩) w_f_RX12_135 rfl (fun v3 => ?_)
      refine J_iconst (1 : Int32) rfl (show Dc Y_X12_passes 22 (.iconst 1) 1 23 from ⟨by decide +kernel, rfl⟩) ?_
      refine J_iadd (show Dc Y_X12_passes 23 (.iadd) 1 24 from ⟨by decide +kernel, rfl⟩) ?_
      refine J_putI (show Dc Y_X12_passes 24 (.putfield 135) 3 27 from ⟨by decide +kernel, rfl⟩) w_f_RX12_135 rfl rfl (fun g4 => ?_) (fun h => by cases h)
      refine J_iconst (1 : Int32) rfl (show Dc Y_X12_passes 27 (.iconst 1) 1 28 from ⟨by decide +kernel, rfl⟩) ?_
      exact J_retz rfl (show Dc Y_X12_passes 28 (.ireturn) 1 29 from ⟨by decide +kernel, rfl⟩) rfl (h0 _ _) (by decide) (by decide)
    · refine J_mask [false, false] ?_
      exact j_X12_passes_15 g h0

theorem c_X12_passes {l : Launch} {D : ZD} {B0 : Nat} (x0 : Nat) (x1 : Int32) (g : ZS) : ∀ r, f_X12_passes x0 x1 g = some r → zCt l D B0 yX12_passes Y_X12_passes [.ref x0, .int x1] g (some (.int r.1)) r.2 :=
  zCt_ofF (vo := fun r => some (.int r.1)) (so := fun r => r.2) (by decide +kernel) rfl (fun h => by cases h) rfl (Nat.le_of_ble_eq_true rfl) (fun X => j_X12_passes x0 x1 g (fun _ _ h => h))

theorem j_X12_of {X : ZX} (x0 : Int32) (x1 : Int32)   (g : ZS) {K : Int32 → Prop} (h0 : ∀ v, K v → xK X (some (.int v)) g) : J Y_X12_of X 0 0 0 [some (.int x0), some (.int x1)] [] g (f_X12_of x0 x1) K := by
  unfold f_X12_of
  refine J_bipush (36 : Int32) rfl (show Dc Y_X12_of 0 (.bipush 36) 2 2 from ⟨by decide +kernel, rfl⟩) ?_
  refine J_iload_n rfl rfl (show Dc Y_X12_of 2 (.iload_n 0) 1 3 from ⟨by decide +kernel, rfl⟩) ?_
  refine J_imul (show Dc Y_X12_of 3 (.imul) 1 4 from ⟨by decide +kernel, rfl⟩) ?_
  refine J_iload_n rfl rfl (show Dc Y_X12_of 4 (.iload_n 1) 1 5 from ⟨by decide +kernel, rfl⟩) ?_
  refine J_iadd (show Dc Y_X12_of 5 (.iadd) 1 6 from ⟨by decide +kernel, rfl⟩) ?_
  exact J_reti (show Dc Y_X12_of 6 (.ireturn) 1 7 from ⟨by decide +kernel, rfl⟩) rfl (h0 _) (by decide) (by decide)

theorem c_X12_of {l : Launch} {D : ZD} {B0 : Nat} (x0 : Int32) (x1 : Int32) (g : ZS) : ∀ r, f_X12_of x0 x1 = some r → zCt l D B0 yX12_of Y_X12_of [.int x0, .int x1] g (some (.int r)) g :=
  zCt_ofF (vo := fun r => some (.int r)) (so := fun _ => g) (by decide +kernel) rfl (fun h => by cases h) rfl (Nat.le_of_ble_eq_true rfl) (fun X => j_X12_of x0 x1 g (fun _ h => h))

theorem j_X12_parrots_92 {X : ZX} (N : Nat) (x0 : Nat) (x1 : Int32)   (g : ZS) {K : ((Int32 × Int32 × ZS) ⊕ (Int32 × ZS)) → Prop} (h0 : ∀ v g, K (.inr (v, g)) → xK X (some (.int v)) g) (hL24 : ∀ s, K (.inl s) → zG Y_X12_parrots X 0 0 24 [some (.ref x0), some (.int s.1), some (.int s.2.1), none, none] [] s.2.2) : J Y_X12_parrots X 0 0 92 [some (.ref x0), some (.int x1), none, none, none] [] g (f_X12_parrots_92 N x0 x1 g) K := by
  unfold f_X12_parrots_92
  refine J_iinc (1 : Int32) [some (.ref x0), some (.int (x1 + (1 : Int32))), none, none, none] (show Dc Y_X12_parrots 92 (.iinc 1 1) 3 95 from ⟨by decide +kernel, rfl⟩) rfl rfl (by decide) rfl rfl ?_
  refine J_aload_n rfl rfl (show Dc Y_X12_parrots 95 (.aload_n 0) 1 96 from ⟨by decide +kernel, rfl⟩) ?_
  refine J_bipush (59 : Int32) rfl (show Dc Y_X12_parrots 96 (.bipush 59) 2 98 from ⟨by decide +kernel, rfl⟩) ?_
  refine J_callVi (fun r => r.1) (fun r => r.2) (show Dc Y_X12_parrots 98 (.invokevirtual 153) 3 101 from ⟨by decide +kernel, rfl⟩) w_m_RX12_153 w_in_X12_passes rfl w_se_X12_passes w_cw_X12_passes (c_X12_passes x0 (59 : Int32) g) rfl rfl (by decide) (Nat.le_of_ble_eq_true rfl) (by decide) (by decide) (fun r1 => ?_)
  refine J_istore_n [some (.ref x0), some (.int (x1 + (1 : Int32))), some (.int r1.1), none, none] (show Dc Y_X12_parrots 101 (.istore_n 2) 1 102 from ⟨by decide +kernel, rfl⟩) rfl (by decide) rfl rfl ?_
  refine J_goto (tg := 24) (show Dc Y_X12_parrots 102 (.goto (-78)) 3 105 from ⟨by decide +kernel, rfl⟩) (by decide) ?_
  exact J_leaf (fun h => hL24 (x1 + (1 : Int32), r1.1, r1.2) h)

theorem j_X12_parrots_129 {X : ZX} (N : Nat) (x0 : Nat) (x1 : Int32) (x3 : Int32) (x4 : Int32)   (g : ZS) {K : ((Int32 × ZS) ⊕ ((Int32 × ZS) ⊕ (Int32 × ZS))) → Prop} (h0 : ∀ v g, K (.inr (.inr (v, g))) → xK X (some (.int v)) g) (hL121 : ∀ s, K (.inr (.inl s)) → zG Y_X12_parrots X 0 0 121 [some (.ref x0), some (.int x1), none, some (.int s.1), none] [] s.2) (hL129 : ∀ s, K (.inl s) → zG Y_X12_parrots X 0 0 129 [some (.ref x0), some (.int x1), none, some (.int x3), some (.int s.1)] [] s.2) : J Y_X12_parrots X 0 0 129 [some (.ref x0), some (.int x1), none, some (.int x3), some (.int x4)] [] g (f_X12_parrots_129 N x0 x1 x3 x4 g) K := by
  unfold f_X12_parrots_129
  refine J_iload rfl (show Dc Y_X12_parrots 129 (.iload 4) 2 131 from ⟨by decide +kernel, rfl⟩) ?_
  refine J_bipush (36 : Int32) rfl (show Dc Y_X12_parrots 131 (.bipush 36) 2 133 from ⟨by decide +kernel, rfl⟩) ?_
  refine J_icmp_ge (tg := 157) (show Dc Y_X12_parrots 133 (.if_icmp .ge 24) 3 136 from ⟨by decide +kernel, rfl⟩) (by decide) (fun h => ?_) (fun h => ?_)
  · refine J_map (f := Sum.inr) (fun _ h => h) ?_
    refine J_aload_n rfl rfl (show Dc Y_X12_parrots 157 (.aload_n 0) 1 158 from ⟨by decide +kernel, rfl⟩) ?_
    refine J_getR (show Dc Y_X12_parrots 158 (.getfield 9) 3 161 from ⟨by decide +kernel, rfl⟩) w_f_RX12_9 rfl (fun v1 => ?_)
    refine J_aload_n rfl rfl (show Dc Y_X12_parrots 161 (.aload_n 0) 1 162 from ⟨by decide +kernel, rfl⟩) ?_
    refine J_getI (show Dc Y_X12_parrots 162 (.getfield 116) 3 165 from ⟨by decide +kernel, rfl⟩) w_f_RX12_116 rfl (fun v2 => ?_)
    refine J_iconst (0 : Int32) rfl (show Dc Y_X12_parrots 165 (.iconst 0) 1 166 from ⟨by decide +kernel, rfl⟩) ?_
    refine J_callSi (fun r => r) (fun _ => g) (show Dc Y_X12_parrots 166 (.invokestatic 179) 3 169 from ⟨by decide +kernel, rfl⟩) w_m_RX12_179 w_st_X12_of w_cw_X12_of (c_X12_of v2 (0 : Int32) g) rfl rfl (by decide) (Nat.le_of_ble_eq_true rfl) (by decide) (by decide) (fun v3 => ?_)
    refine J_aload_n rfl rfl (show Dc Y_X12_parrots 169 (.aload_n 0) 1 170 from ⟨by decide +kernel, rfl⟩) ?_
    refine J_getR (show Dc Y_X12_parrots 170 (.getfield 33) 3 173 from ⟨by decide +kernel, rfl⟩) w_f_RX12_33 rfl (fun v4 => ?_)
    refine J_iconst (2 : Int32) rfl (show Dc Y_X12_parrots 173 (.iconst 2) 1 174 from ⟨by decide +kernel, rfl⟩) ?_
    refine J_iload_n rfl rfl (show Dc Y_X12_parrots 174 (.iload_n 3) 1 175 from ⟨by decide +kernel, rfl⟩) ?_
    refine J_imul (show Dc Y_X12_parrots 175 (.imul) 1 176 from ⟨by decide +kernel, rfl⟩) ?_
    refine J_iald (show Dc Y_X12_parrots 176 (.iaload) 1 177 from ⟨by decide +kernel, rfl⟩) (fun v5 => ?_)
    refine J_iast (show Dc Y_X12_parrots 177 (.iastore) 1 178 from ⟨by decide +kernel, rfl⟩) (fun g6 => ?_)
    refine J_aload_n rfl rfl (show Dc Y_X12_parrots 178 (.aload_n 0) 1 179 from ⟨by decide +kernel, rfl⟩) ?_
    refine J_getR (show Dc Y_X12_parrots 179 (.getfield 13) 3 182 from ⟨by decide +kernel, rfl⟩) w_f_RX12_13 rfl (fun v7 => ?_)
    refine J_aload_n rfl rfl (show Dc Y_X12_parrots 182 (.aload_n 0) 1 183 from ⟨by decide +kernel, rfl⟩) ?_
    refine J_getI (show Dc Y_X12_parrots 183 (.getfield 116) 3 186 from ⟨by decide +kernel, rfl⟩) w_f_RX12_116 rfl (fun v8 => ?_)
    refine J_aload_n rfl rfl (show Dc Y_X12_parrots 186 (.aload_n 0) 1 187 from ⟨by decide +kernel, rfl⟩) ?_
    refine J_getR (show Dc Y_X12_parrots 187 (.getfield 33) 3 190 from ⟨by decide +kernel, rfl⟩) w_f_RX12_33 rfl (fun v9 => ?_)
    refine J_iconst (2 : Int32) rfl (show Dc Y_X12_parrots 190 (.iconst 2) 1 191 from ⟨by decide +kernel, rfl⟩) ?_
    refine J_iload_n rfl rfl (show Dc Y_X12_parrots 191 (.iload_n 3) 1 192 from ⟨by decide +kernel, rfl⟩) ?_
    refine J_imul (show Dc Y_X12_parrots 192 (.imul) 1 193 from ⟨by decide +kernel, rfl⟩) ?_
    refine J_iconst (1 : Int32) rfl (show Dc Y_X12_parrots 193 (.iconst 1) 1 194 from ⟨by decide +kernel, rfl⟩) ?_
    refine J_iadd (show Dc Y_X12_parrots 194 (.iadd) 1 195 from ⟨by decide +kernel, rfl⟩) ?_
    refine J_iald (show Dc Y_X12_parrots 195 (.iaload) 1 196 from ⟨by decide +kernel, rfl⟩) (fun v10 => ?_)
    refine J_iast (show Dc Y_X12_parrots 196 (.iastore) 1 197 from ⟨by decide +kernel, rfl⟩) (fun g11 => ?_)
    refine J_aload_n rfl rfl (show Dc Y_X12_parrots 197 (.aload_n 0) 1 198 from ⟨by decide +kernel, rfl⟩) ?_
    refine J_dup rfl (show Dc Y_X12_parrots 198 (.dup) 1 199 from ⟨by decide +kernel, rfl⟩) ?_
    refine J_getI (show Dc Y_X12_parrots 199 (.getfield 116) 3 202 from ⟨by decide +kernel, rfl⟩) w_f_RX12_116 rfl (fun v12 => ?_)
    refine J_iconst (1 : Int32) rfl (show Dc Y_X12_parrots 202 (.iconst 1) 1 203 from ⟨by decide +kernel, rfl⟩) ?_
    refine J_iadd (show Dc Y_X12_parrots 203 (.iadd) 1 204 from ⟨by decide +kernel, rfl⟩) ?_
    refine J_putI (show Dc Y_X12_parrots 204 (.putfield 116) 3 207 from ⟨by decide +kernel, rfl⟩) w_f_RX12_116 rfl rfl (fun g13 => ?_) (fun h => by cases h)
    refine J_iinc (1 : Int32) [some (.ref x0), some (.int x1), none, some (.int (x3 + (1 : Int32))), some (.int x4)] (show Dc Y_X12_parrots 207 (.iinc 3 1) 3 210 from ⟨by decide +kernel, rfl⟩) rfl rfl (by decide) rfl rfl ?_
    refine J_goto (tg := 121) (show Dc Y_X12_parrots 210 (.goto (-89)) 3 213 from ⟨by decide +kernel, rfl⟩) (by decide) ?_
    refine J_mask [true, true, false, true, false] ?_
    exact J_leaf (fun h => hL121 (x3 + (1 : Int32), g13) h)
  · refine J_aload_n rfl rfl (show Dc Y_X12_parrots 136 (.aload_n 0) 1 137 from ⟨by decide +kernel, rfl⟩) ?_
    refine J_getR (show Dc Y_X12_parrots 137 (.getfield 9) 3 140 from ⟨by decide +kernel, rfl⟩) w_f_RX12_9 rfl (fun v14 => ?_)
    refine J_aload_n rfl rfl (show Dc Y_X12_parrots 140 (.aload_n 0) 1 141 from ⟨by decide +kernel, rfl⟩) ?_
    refine J_getI (show Dc Y_X12_parrots 141 (.getfield 116) 3 144 from ⟨by decide +kernel, rfl⟩) w_f_RX12_116 rfl (fun v15 => ?_)
    refine J_iload rfl (show Dc Y_X12_parrots 144 (.iload 4) 2 146 from ⟨by decide +kernel, rfl⟩) ?_
    refine J_callSi (fun r => r) (fun _ => g) (show Dc Y_X12_parrots 146 (.invokestatic 179) 3 149 from ⟨by decide +kernel, rfl⟩) w_m_RX12_179 w_st_X12_of w_cw_X12_of (c_X12_of v15 x4 g) rfl rfl (by decide) (Nat.le_of_ble_eq_true rfl) (by decide) (by decide) (fun v16 => ?_)
    refine J_iconst (0 : Int32) rfl (show Dc Y_X12_parrots 149 (.iconst 0) 1 150 from ⟨by decide +kernel, rfl⟩) ?_
    refine J_iast (show Dc Y_X12_parrots 150 (.iastore) 1 151 from ⟨by decide +kernel, rfl⟩) (fun g17 => ?_)
    refine J_iinc (1 : Int32) [some (.ref x0), some (.int x1), none, some (.int x3), some (.int (x4 + (1 : Int32)))] (show Dc Y_X12_parrots 151 (.iinc 4 1) 3 154 from ⟨by decide +kernel, rfl⟩) rfl rfl (by decide) rfl rfl ?_
    refine J_goto (tg := 129) (show Dc Y_X12_parrots 154 (.goto (-25)) 3 157 from ⟨by decide +kernel, rfl⟩) (by decide) ?_
    exact J_leaf (fun h => hL129 (x4 + (1 : Int32), g17) h)

theorem j_X12_parrots_121 {X : ZX} (N : Nat) (x0 : Nat) (x1 : Int32) (x3 : Int32)   (g : ZS) {K : ((Int32 × ZS) ⊕ (Int32 × ZS)) → Prop} (h0 : ∀ v g, K (.inr (v, g)) → xK X (some (.int v)) g) (hL121 : ∀ s, K (.inl s) → zG Y_X12_parrots X 0 0 121 [some (.ref x0), some (.int x1), none, some (.int s.1), none] [] s.2) : J Y_X12_parrots X 0 0 121 [some (.ref x0), some (.int x1), none, some (.int x3), none] [] g (f_X12_parrots_121 N x0 x1 x3 g) K := by
  unfold f_X12_parrots_121
  refine J_iload_n rfl rfl (show Dc Y_X12_parrots 121 (.iload_n 3) 1 122 from ⟨by decide +kernel, rfl⟩) ?_
  refine J_iload_n rfl rfl (show Dc Y_X12_parrots 122 (.iload_n 1) 1 123 from ⟨by decide +kernel, rfl⟩) ?_
  refine J_icmp_ge (tg := 213) (show Dc Y_X12_parrots 123 (.if_icmp .ge 90) 3 126 from ⟨by decide +kernel, rfl⟩) (by decide) (fun h => ?_) (fun h => ?_)
  · refine J_map (f := Sum.inr) (fun _ h => h) ?_
    refine J_aload_n rfl rfl (show Dc Y_X12_parrots 213 (.aload_n 0) 1 214 from ⟨by decide +kernel, rfl⟩) ?_
    refine J_iconst (0 : Int32) rfl (show Dc Y_X12_parrots 214 (.iconst 0) 1 215 from ⟨by decide +kernel, rfl⟩) ?_
    refine J_putI (show Dc Y_X12_parrots 215 (.putfield 183) 3 218 from ⟨by decide +kernel, rfl⟩) w_f_RX12_183 rfl rfl (fun g1 => ?_) (fun h => by cases h)
    refine J_aload_n rfl rfl (show Dc Y_X12_parrots 218 (.aload_n 0) 1 219 from ⟨by decide +kernel, rfl⟩) ?_
    refine J_dup rfl (show Dc Y_X12_parrots 219 (.dup) 1 220 from ⟨by decide +kernel, rfl⟩) ?_
    refine J_getI (show Dc Y_X12_parrots 220 (.getfield 186) 3 223 from ⟨by decide +kernel, rfl⟩) w_f_RX12_186 rfl (fun v2 => ?_)
    refine J_iconst (1 : Int32) rfl (show Dc Y_X12_parrots 223 (.iconst 1) 1 224 from ⟨by decide +kernel, rfl⟩) ?_
    refine J_iadd (show Dc Y_X12_parrots 224 (.iadd) 1 225 from ⟨by decide +kernel, rfl⟩) ?_
    refine J_putI (show Dc Y_X12_parrots 225 (.putfield 186) 3 228 from ⟨by decide +kernel, rfl⟩) w_f_RX12_186 rfl rfl (fun g3 => ?_) (fun h => by cases h)
    refine J_iload_n rfl rfl (show Dc Y_X12_parrots 228 (.iload_n 1) 1 229 from ⟨by decide +kernel, rfl⟩) ?_
    exact J_reti (show Dc Y_X12_parrots 229 (.ireturn) 1 230 from ⟨by decide +kernel, rfl⟩) rfl (h0 _ _) (by decide) (by decide)
  · refine J_iconst (0 : Int32) rfl (show Dc Y_X12_parrots 126 (.iconst 0) 1 127 from ⟨by decide +kernel, rfl⟩) ?_
    refine J_istore [some (.ref x0), some (.int x1), none, some (.int x3), some (.int (0 : Int32))] (show Dc Y_X12_parrots 127 (.istore 4) 2 129 from ⟨by decide +kernel, rfl⟩) (by decide) rfl rfl ?_
    exact J_loop (X := X) (K := K) (uc := fun _ => 0) (us := fun _ => 0) (lf := fun s => [some (.ref x0), some (.int x1), none, some (.int x3), some (.int s.1)]) (gf := fun s => s.2) (fun s => j_X12_parrots_129 (K := zKl Y_X12_parrots X 129 (fun _ => 0) (fun _ => 0) (fun s => [some (.ref x0), some (.int x1), none, some (.int x3), some (.int s.1)]) (fun s => s.2) K) N x0 x1 x3 s.1 s.2 h0 hL121 (fun s h => h)) N ((0 : Int32), g)

theorem j_X12_parrots_105 {X : ZX} (N : Nat) (x0 : Nat) (x1 : Int32)   (g : ZS) {K : (Int32 × ZS) → Prop} (h0 : ∀ v g, K (v, g) → xK X (some (.int v)) g) : J Y_X12_parrots X 0 0 105 [some (.ref x0), some (.int x1), none, none, none] [] g (f_X12_parrots_105 N x0 x1 g) K := by
  unfold f_X12_parrots_105
  refine J_aload_n rfl rfl (show Dc Y_X12_parrots 105 (.aload_n 0) 1 106 from ⟨by decide +kernel, rfl⟩) ?_
  refine J_callVi (fun r => r.1) (fun r => r.2) (show Dc Y_X12_parrots 106 (.invokevirtual 168) 3 109 from ⟨by decide +kernel, rfl⟩) w_m_RX12_168 w_in_X12_wasRight rfl w_se_X12_wasRight w_cw_X12_wasRight (c_X12_wasRight x0 g) rfl rfl (by decide) (Nat.le_of_ble_eq_true rfl) (by decide) (by decide) (fun r1 => ?_)
  refine J_if_ne (tg := 119) (show Dc Y_X12_parrots 109 (.ifCond .ne 10) 3 112 from ⟨by decide +kernel, rfl⟩) (by decide) (fun h => ?_) (fun h => ?_)
  · refine J_iconst (0 : Int32) rfl (show Dc Y_X12_parrots 119 (.iconst 0) 1 120 from ⟨by decide +kernel, rfl⟩) ?_
    refine J_istore_n [some (.ref x0), some (.int x1), none, some (.int (0 : Int32)), none] (show Dc Y_X12_parrots 120 (.istore_n 3) 1 121 from ⟨by decide +kernel, rfl⟩) rfl (by decide) rfl rfl ?_
    exact J_loop (X := X) (K := K) (uc := fun _ => 0) (us := fun _ => 0) (lf := fun s => [some (.ref x0), some (.int x1), none, some (.int s.1), none]) (gf := fun s => s.2) (fun s => j_X12_parrots_121 (K := zKl Y_X12_parrots X 121 (fun _ => 0) (fun _ => 0) (fun s => [some (.ref x0), some (.int x1), none, some (.int s.1), none]) (fun s => s.2) K) N x0 x1 s.1 s.2 h0 (fun s h => h)) N ((0 : Int32), r1.2)
  · refine J_iconst (-1 : Int32) rfl (show Dc Y_X12_parrots 112 (.iconst (-1)) 1 113 from ⟨by decide +kernel, rfl⟩) ?_
    refine J_aload_n rfl rfl (show Dc Y_X12_parrots 113 (.aload_n 0) 1 114 from ⟨by decide +kernel, rfl⟩) ?_
    refine J_getI (show Dc Y_X12_parrots 114 (.getfield 138) 3 117 from ⟨by decide +kernel, rfl⟩) w_f_RX12_138 rfl (fun v2 => ?_)
    refine J_isub (show Dc Y_X12_parrots 117 (.isub) 1 118 from ⟨by decide +kernel, rfl⟩) ?_
    exact J_reti (show Dc Y_X12_parrots 118 (.ireturn) 1 119 from ⟨by decide +kernel, rfl⟩) rfl (h0 _ _) (by decide) (by decide)

theorem j_X12_parrots_24 {X : ZX} (N : Nat) (x0 : Nat) (x1 : Int32) (x2 : Int32)   (g : ZS) {K : ((Int32 × Int32 × ZS) ⊕ (Int32 × ZS)) → Prop} (h0 : ∀ v g, K (.inr (v, g)) → xK X (some (.int v)) g) (hL24 : ∀ s, K (.inl s) → zG Y_X12_parrots X 0 0 24 [some (.ref x0), some (.int s.1), some (.int s.2.1), none, none] [] s.2.2) : J Y_X12_parrots X 0 0 24 [some (.ref x0), some (.int x1), some (.int x2), none, none] [] g (f_X12_parrots_24 N x0 x1 x2 g) K := by
  unfold f_X12_parrots_24
  refine J_iload_n rfl rfl (show Dc Y_X12_parrots 24 (.iload_n 2) 1 25 from ⟨by decide +kernel, rfl⟩) ?_
  refine J_if_eq (tg := 105) (show Dc Y_X12_parrots 25 (.ifCond .eq 80) 3 28 from ⟨by decide +kernel, rfl⟩) (by decide) (fun h => ?_) (fun h => ?_)
  · refine J_mask [true, true, false, false, false] ?_
    refine J_map (f := Sum.inr) (fun _ h => h) ?_
    exact j_X12_parrots_105 (K := fun o => K (.inr o)) N x0 x1 g h0
  · refine J_aload_n rfl rfl (show Dc Y_X12_parrots 28 (.aload_n 0) 1 29 from ⟨by decide +kernel, rfl⟩) ?_
    refine J_callVi (fun r => r) (fun _ => g) (show Dc Y_X12_parrots 29 (.invokevirtual 145) 3 32 from ⟨by decide +kernel, rfl⟩) w_m_RX12_145 w_in_X12_fine rfl w_se_X12_fine w_cw_X12_fine (c_X12_fine x0 g) rfl rfl (by decide) (Nat.le_of_ble_eq_true rfl) (by decide) (by decide) (fun v1 => ?_)
    refine J_if_eq (tg := 105) (show Dc Y_X12_parrots 32 (.ifCond .eq 73) 3 35 from ⟨by decide +kernel, rfl⟩) (by decide) (fun h => ?_) (fun h => ?_)
    · refine J_mask [true, true, false, false, false] ?_
      refine J_map (f := Sum.inr) (fun _ h => h) ?_
      exact j_X12_parrots_105 (K := fun o => K (.inr o)) N x0 x1 g h0
    · refine J_aload_n rfl rfl (show Dc Y_X12_parrots 35 (.aload_n 0) 1 36 from ⟨by decide +kernel, rfl⟩) ?_
      refine J_getI (show Dc Y_X12_parrots 36 (.getfield 116) 3 39 from ⟨by decide +kernel, rfl⟩) w_f_RX12_116 rfl (fun v2 => ?_)
      refine J_iload_n rfl rfl (show Dc Y_X12_parrots 39 (.iload_n 1) 1 40 from ⟨by decide +kernel, rfl⟩) ?_
      refine J_iadd (show Dc Y_X12_parrots 40 (.iadd) 1 41 from ⟨by decide +kernel, rfl⟩) ?_
      refine J_bipush (6 : Int32) rfl (show Dc Y_X12_parrots 41 (.bipush 6) 2 43 from ⟨by decide +kernel, rfl⟩) ?_
      refine J_icmp_ne (tg := 57) (show Dc Y_X12_parrots 43 (.if_icmp .ne 14) 3 46 from ⟨by decide +kernel, rfl⟩) (by decide) (fun h => ?_) (fun h => ?_)
      · refine J_aload_n rfl rfl (show Dc Y_X12_parrots 57 (.aload_n 0) 1 58 from ⟨by decide +kernel, rfl⟩) ?_
        refine J_getR (show Dc Y_X12_parrots 58 (.getfield 33) 3 61 from ⟨by decide +kernel, rfl⟩) w_f_RX12_33 rfl (fun v3 => ?_)
        refine J_iconst (2 : Int32) rfl (show Dc Y_X12_parrots 61 (.iconst 2) 1 62 from ⟨by decide +kernel, rfl⟩) ?_
        refine J_iload_n rfl rfl (show Dc Y_X12_parrots 62 (.iload_n 1) 1 63 from ⟨by decide +kernel, rfl⟩) ?_
        refine J_imul (show Dc Y_X12_parrots 63 (.imul) 1 64 from ⟨by decide +kernel, rfl⟩) ?_
        refine J_aload_n rfl rfl (show Dc Y_X12_parrots 64 (.aload_n 0) 1 65 from ⟨by decide +kernel, rfl⟩) ?_
        refine J_bipush (48 : Int32) rfl (show Dc Y_X12_parrots 65 (.bipush 48) 2 67 from ⟨by decide +kernel, rfl⟩) ?_
        refine J_iconst (4 : Int32) rfl (show Dc Y_X12_parrots 67 (.iconst 4) 1 68 from ⟨by decide +kernel, rfl⟩) ?_
        refine J_callVi (fun r => r.1) (fun r => r.2) (show Dc Y_X12_parrots 68 (.invokevirtual 161) 3 71 from ⟨by decide +kernel, rfl⟩) w_m_RX12_161 w_in_X12_oneOf rfl w_se_X12_oneOf w_cw_X12_oneOf (c_X12_oneOf x0 (48 : Int32) (4 : Int32) g) rfl rfl (by decide) (Nat.le_of_ble_eq_true rfl) (by decide) (by decide) (fun r4 => ?_)
        refine J_iast (show Dc Y_X12_parrots 71 (.iastore) 1 72 from ⟨by decide +kernel, rfl⟩) (fun g5 => ?_)
        refine J_aload_n rfl rfl (show Dc Y_X12_parrots 72 (.aload_n 0) 1 73 from ⟨by decide +kernel, rfl⟩) ?_
        refine J_getR (show Dc Y_X12_parrots 73 (.getfield 33) 3 76 from ⟨by decide +kernel, rfl⟩) w_f_RX12_33 rfl (fun v6 => ?_)
        refine J_iconst (2 : Int32) rfl (show Dc Y_X12_parrots 76 (.iconst 2) 1 77 from ⟨by decide +kernel, rfl⟩) ?_
        refine J_iload_n rfl rfl (show Dc Y_X12_parrots 77 (.iload_n 1) 1 78 from ⟨by decide +kernel, rfl⟩) ?_
        refine J_imul (show Dc Y_X12_parrots 78 (.imul) 1 79 from ⟨by decide +kernel, rfl⟩) ?_
        refine J_iconst (1 : Int32) rfl (show Dc Y_X12_parrots 79 (.iconst 1) 1 80 from ⟨by decide +kernel, rfl⟩) ?_
        refine J_iadd (show Dc Y_X12_parrots 80 (.iadd) 1 81 from ⟨by decide +kernel, rfl⟩) ?_
        refine J_aload_n rfl rfl (show Dc Y_X12_parrots 81 (.aload_n 0) 1 82 from ⟨by decide +kernel, rfl⟩) ?_
        refine J_bipush (49 : Int32) rfl (show Dc Y_X12_parrots 82 (.bipush 49) 2 84 from ⟨by decide +kernel, rfl⟩) ?_
        refine J_bipush (8 : Int32) rfl (show Dc Y_X12_parrots 84 (.bipush 8) 2 86 from ⟨by decide +kernel, rfl⟩) ?_
        refine J_callVi (fun r => r.1) (fun r => r.2) (show Dc Y_X12_parrots 86 (.invokevirtual 161) 3 89 from ⟨by decide +kernel, rfl⟩) w_m_RX12_161 w_in_X12_oneOf rfl w_se_X12_oneOf w_cw_X12_oneOf (c_X12_oneOf x0 (49 : Int32) (8 : Int32) g5) rfl rfl (by decide) (Nat.le_of_ble_eq_true rfl) (by decide) (by decide) (fun r7 => ?_)
        refine J_iconst (1 : Int32) rfl (show Dc Y_X12_parrots 89 (.iconst 1) 1 90 from ⟨by decide +kernel, rfl⟩) ?_
        refine J_iadd (show Dc Y_X12_parrots 90 (.iadd) 1 91 from ⟨by decide +kernel, rfl⟩) ?_
        refine J_iast (show Dc Y_X12_parrots 91 (.iastore) 1 92 from ⟨by decide +kernel, rfl⟩) (fun g8 => ?_)
        refine J_mask [true, true, false, false, false] ?_
        exact j_X12_parrots_92 N x0 x1 g8 h0 hL24
      · refine J_aload_n rfl rfl (show Dc Y_X12_parrots 46 (.aload_n 0) 1 47 from ⟨by decide +kernel, rfl⟩) ?_
        refine J_aload_n rfl rfl (show Dc Y_X12_parrots 47 (.aload_n 0) 1 48 from ⟨by decide +kernel, rfl⟩) ?_
        refine J_getI (show Dc Y_X12_parrots 48 (.getfield 135) 3 51 from ⟨by decide +kernel, rfl⟩) w_f_RX12_135 rfl (fun v9 => ?_)
        refine J_callVv (fun r => r) (show Dc Y_X12_parrots 51 (.invokevirtual 157) 3 54 from ⟨by decide +kernel, rfl⟩) w_m_RX12_157 w_in_X12_fault rfl w_se_X12_fault w_cw_X12_fault (c_X12_fault x0 v9 g) rfl rfl (by decide) (Nat.le_of_ble_eq_true rfl) (by decide) (by decide) (fun g10 => ?_)
        refine J_goto (tg := 92) (show Dc Y_X12_parrots 54 (.goto 38) 3 57 from ⟨by decide +kernel, rfl⟩) (by decide) ?_
        refine J_mask [true, true, false, false, false] ?_
        exact j_X12_parrots_92 N x0 x1 g10 h0 hL24

theorem j_X12_parrots {X : ZX} (N : Nat) (x0 : Nat)   (g : ZS) {K : (Int32 × ZS) → Prop} (h0 : ∀ v g, K (v, g) → xK X (some (.int v)) g) : J Y_X12_parrots X 0 0 0 [some (.ref x0), none, none, none, none] [] g (f_X12_parrots N x0 g) K := by
  unfold f_X12_parrots
  refine J_aload_n rfl rfl (show Dc Y_X12_parrots 0 (.aload_n 0) 1 1 from ⟨by decide +kernel, rfl⟩) ?_
  refine J_iconst (0 : Int32) rfl (show Dc Y_X12_parrots 1 (.iconst 0) 1 2 from ⟨by decide +kernel, rfl⟩) ?_
  refine J_putI (show Dc Y_X12_parrots 2 (.putfield 109) 3 5 from ⟨by decide +kernel, rfl⟩) w_f_RX12_109 rfl rfl (fun g1 => ?_) (fun h => by cases h)
  refine J_aload_n rfl rfl (show Dc Y_X12_parrots 5 (.aload_n 0) 1 6 from ⟨by decide +kernel, rfl⟩) ?_
  refine J_bipush (17 : Int32) rfl (show Dc Y_X12_parrots 6 (.bipush 17) 2 8 from ⟨by decide +kernel, rfl⟩) ?_
  refine J_callVv (fun r => r) (show Dc Y_X12_parrots 8 (.invokevirtual 165) 3 11 from ⟨by decide +kernel, rfl⟩) w_m_RX12_165 w_in_X12_beginText rfl w_se_X12_beginText w_cw_X12_beginText (c_X12_beginText x0 (17 : Int32) g1) rfl rfl (by decide) (Nat.le_of_ble_eq_true rfl) (by decide) (by decide) (fun g2 => ?_)
  refine J_aload_n rfl rfl (show Dc Y_X12_parrots 11 (.aload_n 0) 1 12 from ⟨by decide +kernel, rfl⟩) ?_
  refine J_getI (show Dc Y_X12_parrots 12 (.getfield 129) 3 15 from ⟨by decide +kernel, rfl⟩) w_f_RX12_129 rfl (fun v3 => ?_)
  refine J_if_ne (tg := 20) (show Dc Y_X12_parrots 15 (.ifCond .ne 5) 3 18 from ⟨by decide +kernel, rfl⟩) (by decide) (fun h => ?_) (fun h => ?_)
  · refine J_iconst (0 : Int32) rfl (show Dc Y_X12_parrots 20 (.iconst 0) 1 21 from ⟨by decide +kernel, rfl⟩) ?_
    refine J_istore_n [some (.ref x0), some (.int (0 : Int32)), none, none, none] (show Dc Y_X12_parrots 21 (.istore_n 1) 1 22 from ⟨by decide +kernel, rfl⟩) rfl (by decide) rfl rfl ?_
    refine J_iconst (1 : Int32) rfl (show Dc Y_X12_parrots 22 (.iconst 1) 1 23 from ⟨by decide +kernel, rfl⟩) ?_
    refine J_istore_n [some (.ref x0), some (.int (0 : Int32)), some (.int (1 : Int32)), none, none] (show Dc Y_X12_parrots 23 (.istore_n 2) 1 24 from ⟨by decide +kernel, rfl⟩) rfl (by decide) rfl rfl ?_
    exact J_loop (X := X) (K := K) (uc := fun _ => 0) (us := fun _ => 0) (lf := fun s => [some (.ref x0), some (.int s.1), some (.int s.2.1), none, none]) (gf := fun s => s.2.2) (fun s => j_X12_parrots_24 (K := zKl Y_X12_parrots X 24 (fun _ => 0) (fun _ => 0) (fun s => [some (.ref x0), some (.int s.1), some (.int s.2.1), none, none]) (fun s => s.2.2) K) N x0 s.1 s.2.1 s.2.2 h0 (fun s h => h)) N ((0 : Int32), (1 : Int32), g2)
  · refine J_iconst (0 : Int32) rfl (show Dc Y_X12_parrots 18 (.iconst 0) 1 19 from ⟨by decide +kernel, rfl⟩) ?_
    exact J_reti (show Dc Y_X12_parrots 19 (.ireturn) 1 20 from ⟨by decide +kernel, rfl⟩) rfl (h0 _ _) (by decide) (by decide)

theorem c_X12_parrots {l : Launch} {D : ZD} {B0 : Nat} (N : Nat) (x0 : Nat) (g : ZS) : ∀ r, f_X12_parrots N x0 g = some r → zCt l D B0 yX12_parrots Y_X12_parrots [.ref x0] g (some (.int r.1)) r.2 :=
  zCt_ofF (vo := fun r => some (.int r.1)) (so := fun r => r.2) (by decide +kernel) rfl (fun h => by cases h) rfl (Nat.le_of_ble_eq_true rfl) (fun X => j_X12_parrots N x0 g (fun _ _ h => h))

theorem j_X11_sumOfWorths_4 {X : ZX} (N : Nat) (x0 : Nat) (x1 : Int32) (x2 : Int32)   (g : ZS) {K : ((Int32 × Int32) ⊕ Int32) → Prop} (h0 : ∀ v, K (.inr v) → xK X (some (.int v)) g) (hL4 : ∀ s, K (.inl s) → zG Y_X11_sumOfWorths X 0 0 4 [some (.ref x0), some (.int s.1), some (.int s.2)] [] g) : J Y_X11_sumOfWorths X 0 0 4 [some (.ref x0), some (.int x1), some (.int x2)] [] g (f_X11_sumOfWorths_4 N x0 x1 x2 g) K := by
  unfold f_X11_sumOfWorths_4
  refine J_iload_n rfl rfl (show Dc Y_X11_sumOfWorths 4 (.iload_n 2) 1 5 from ⟨by decide +kernel, rfl⟩) ?_
  refine J_bipush (8 : Int32) rfl (show Dc Y_X11_sumOfWorths 5 (.bipush 8) 2 7 from ⟨by decide +kernel, rfl⟩) ?_
  refine J_icmp_ge (tg := 25) (show Dc Y_X11_sumOfWorths 7 (.if_icmp .ge 18) 3 10 from ⟨by decide +kernel, rfl⟩) (by decide) (fun h => ?_) (fun h => ?_)
  · refine J_map (f := Sum.inr) (fun _ h => h) ?_
    refine J_iload_n rfl rfl (show Dc Y_X11_sumOfWorths 25 (.iload_n 1) 1 26 from ⟨by decide +kernel, rfl⟩) ?_
    exact J_reti (show Dc Y_X11_sumOfWorths 26 (.ireturn) 1 27 from ⟨by decide +kernel, rfl⟩) rfl (h0 _) (by decide) (by decide)
  · refine J_iload_n rfl rfl (show Dc Y_X11_sumOfWorths 10 (.iload_n 1) 1 11 from ⟨by decide +kernel, rfl⟩) ?_
    refine J_aload_n rfl rfl (show Dc Y_X11_sumOfWorths 11 (.aload_n 0) 1 12 from ⟨by decide +kernel, rfl⟩) ?_
    refine J_getR (show Dc Y_X11_sumOfWorths 12 (.getfield 30) 3 15 from ⟨by decide +kernel, rfl⟩) w_f_RX11_30 rfl (fun v1 => ?_)
    refine J_iload_n rfl rfl (show Dc Y_X11_sumOfWorths 15 (.iload_n 2) 1 16 from ⟨by decide +kernel, rfl⟩) ?_
    refine J_iald (show Dc Y_X11_sumOfWorths 16 (.iaload) 1 17 from ⟨by decide +kernel, rfl⟩) (fun v2 => ?_)
    refine J_iadd (show Dc Y_X11_sumOfWorths 17 (.iadd) 1 18 from ⟨by decide +kernel, rfl⟩) ?_
    refine J_istore_n [some (.ref x0), some (.int (x1 + v2)), some (.int x2)] (show Dc Y_X11_sumOfWorths 18 (.istore_n 1) 1 19 from ⟨by decide +kernel, rfl⟩) rfl (by decide) rfl rfl ?_
    refine J_iinc (1 : Int32) [some (.ref x0), some (.int (x1 + v2)), some (.int (x2 + (1 : Int32)))] (show Dc Y_X11_sumOfWorths 19 (.iinc 2 1) 3 22 from ⟨by decide +kernel, rfl⟩) rfl rfl (by decide) rfl rfl ?_
    refine J_goto (tg := 4) (show Dc Y_X11_sumOfWorths 22 (.goto (-18)) 3 25 from ⟨by decide +kernel, rfl⟩) (by decide) ?_
    exact J_leaf (fun h => hL4 (x1 + v2, x2 + (1 : Int32)) h)

theorem j_X11_sumOfWorths {X : ZX} (N : Nat) (x0 : Nat)   (g : ZS) {K : Int32 → Prop} (h0 : ∀ v, K v → xK X (some (.int v)) g) : J Y_X11_sumOfWorths X 0 0 0 [some (.ref x0), none, none] [] g (f_X11_sumOfWorths N x0 g) K := by
  unfold f_X11_sumOfWorths
  refine J_iconst (0 : Int32) rfl (show Dc Y_X11_sumOfWorths 0 (.iconst 0) 1 1 from ⟨by decide +kernel, rfl⟩) ?_
  refine J_istore_n [some (.ref x0), some (.int (0 : Int32)), none] (show Dc Y_X11_sumOfWorths 1 (.istore_n 1) 1 2 from ⟨by decide +kernel, rfl⟩) rfl (by decide) rfl rfl ?_
  refine J_iconst (0 : Int32) rfl (show Dc Y_X11_sumOfWorths 2 (.iconst 0) 1 3 from ⟨by decide +kernel, rfl⟩) ?_
  refine J_istore_n [some (.ref x0), some (.int (0 : Int32)), some (.int (0 : Int32))] (show Dc Y_X11_sumOfWorths 3 (.istore_n 2) 1 4 from ⟨by decide +kernel, rfl⟩) rfl (by decide) rfl rfl ?_
  exact J_loop (X := X) (K := K) (uc := fun _ => 0) (us := fun _ => 0) (lf := fun s => [some (.ref x0), some (.int s.1), some (.int s.2)]) (gf := fun s => g) (fun s => j_X11_sumOfWorths_4 (K := zKl Y_X11_sumOfWorths X 4 (fun _ => 0) (fun _ => 0) (fun s => [some (.ref x0), some (.int s.1), some (.int s.2)]) (fun s => g) K) N x0 s.1 s.2 g h0 (fun s h => h)) N ((0 : Int32), (0 : Int32))

theorem c_X11_sumOfWorths {l : Launch} {D : ZD} {B0 : Nat} (N : Nat) (x0 : Nat) (g : ZS) : ∀ r, f_X11_sumOfWorths N x0 g = some r → zCt l D B0 yX11_sumOfWorths Y_X11_sumOfWorths [.ref x0] g (some (.int r)) g :=
  zCt_ofF (vo := fun r => some (.int r)) (so := fun _ => g) (by decide +kernel) rfl (fun h => by cases h) rfl (Nat.le_of_ble_eq_true rfl) (fun X => j_X11_sumOfWorths N x0 g (fun _ h => h))

theorem j_X11_readWorths_31 {X : ZX} (N : Nat) (x1 : Int32)   (g : ZS) {K : (Int32 × ZS) → Prop} (h0 : ∀ v g, K (v, g) → xK X (some (.int v)) g) : J Y_X11_readWorths X 0 0 31 [none, some (.int x1)] [] g (f_X11_readWorths_31 N x1 g) K := by
  unfold f_X11_readWorths_31
  refine J_iconst (-1 : Int32) rfl (show Dc Y_X11_readWorths 31 (.iconst (-1)) 1 32 from ⟨by decide +kernel, rfl⟩) ?_
  refine J_iload_n rfl rfl (show Dc Y_X11_readWorths 32 (.iload_n 1) 1 33 from ⟨by decide +kernel, rfl⟩) ?_
  refine J_isub (show Dc Y_X11_readWorths 33 (.isub) 1 34 from ⟨by decide +kernel, rfl⟩) ?_
  exact J_reti (show Dc Y_X11_readWorths 34 (.ireturn) 1 35 from ⟨by decide +kernel, rfl⟩) rfl (h0 _ _) (by decide) (by decide)

theorem j_X11_readWorths_65 {X : ZX} (N : Nat) (x0 : Nat) (x1 : Int32)   (g : ZS) {K : ((Int32 × ZS) ⊕ (Int32 × ZS)) → Prop} (h0 : ∀ v g, K (.inr (v, g)) → xK X (some (.int v)) g) (hL65 : ∀ s, K (.inl s) → zG Y_X11_readWorths X 0 0 65 [some (.ref x0), some (.int s.1)] [] s.2) : J Y_X11_readWorths X 0 0 65 [some (.ref x0), some (.int x1)] [] g (f_X11_readWorths_65 N x0 x1 g) K := by
  unfold f_X11_readWorths_65
  refine J_iload_n rfl rfl (show Dc Y_X11_readWorths 65 (.iload_n 1) 1 66 from ⟨by decide +kernel, rfl⟩) ?_
  refine J_bipush (8 : Int32) rfl (show Dc Y_X11_readWorths 66 (.bipush 8) 2 68 from ⟨by decide +kernel, rfl⟩) ?_
  refine J_icmp_ge (tg := 91) (show Dc Y_X11_readWorths 68 (.if_icmp .ge 23) 3 71 from ⟨by decide +kernel, rfl⟩) (by decide) (fun h => ?_) (fun h => ?_)
  · refine J_map (f := Sum.inr) (fun _ h => h) ?_
    refine J_aload_n rfl rfl (show Dc Y_X11_readWorths 91 (.aload_n 0) 1 92 from ⟨by decide +kernel, rfl⟩) ?_
    refine J_callVi (fun r => r) (fun _ => g) (show Dc Y_X11_readWorths 92 (.invokevirtual 154) 3 95 from ⟨by decide +kernel, rfl⟩) w_m_RX11_154 w_in_X11_sumOfWorths rfl w_se_X11_sumOfWorths w_cw_X11_sumOfWorths (c_X11_sumOfWorths N x0 g) rfl rfl (by decide) (Nat.le_of_ble_eq_true rfl) (by decide) (by decide) (fun v1 => ?_)
    exact J_reti (show Dc Y_X11_readWorths 95 (.ireturn) 1 96 from ⟨by decide +kernel, rfl⟩) rfl (h0 _ _) (by decide) (by decide)
  · refine J_aload_n rfl rfl (show Dc Y_X11_readWorths 71 (.aload_n 0) 1 72 from ⟨by decide +kernel, rfl⟩) ?_
    refine J_getR (show Dc Y_X11_readWorths 72 (.getfield 30) 3 75 from ⟨by decide +kernel, rfl⟩) w_f_RX11_30 rfl (fun v2 => ?_)
    refine J_iload_n rfl rfl (show Dc Y_X11_readWorths 75 (.iload_n 1) 1 76 from ⟨by decide +kernel, rfl⟩) ?_
    refine J_aload_n rfl rfl (show Dc Y_X11_readWorths 76 (.aload_n 0) 1 77 from ⟨by decide +kernel, rfl⟩) ?_
    refine J_getR (show Dc Y_X11_readWorths 77 (.getfield 10) 3 80 from ⟨by decide +kernel, rfl⟩) w_f_RX11_10 rfl (fun v3 => ?_)
    refine J_iload_n rfl rfl (show Dc Y_X11_readWorths 80 (.iload_n 1) 1 81 from ⟨by decide +kernel, rfl⟩) ?_
    refine J_callVi (fun r => r) (fun _ => g) (show Dc Y_X11_readWorths 81 (.invokevirtual 135) 3 84 from ⟨by decide +kernel, rfl⟩) w_m_RX11_135 w_in_X8_digitAt rfl w_se_X8_digitAt w_cw_X8_digitAt (c_X8_digitAt v3 x1 g) rfl rfl (by decide) (Nat.le_of_ble_eq_true rfl) (by decide) (by decide) (fun v4 => ?_)
    refine J_iast (show Dc Y_X11_readWorths 84 (.iastore) 1 85 from ⟨by decide +kernel, rfl⟩) (fun g5 => ?_)
    refine J_iinc (1 : Int32) [some (.ref x0), some (.int (x1 + (1 : Int32)))] (show Dc Y_X11_readWorths 85 (.iinc 1 1) 3 88 from ⟨by decide +kernel, rfl⟩) rfl rfl (by decide) rfl rfl ?_
    refine J_goto (tg := 65) (show Dc Y_X11_readWorths 88 (.goto (-23)) 3 91 from ⟨by decide +kernel, rfl⟩) (by decide) ?_
    exact J_leaf (fun h => hL65 (x1 + (1 : Int32), g5) h)

theorem j_X11_readWorths_2 {X : ZX} (N : Nat) (x0 : Nat) (x1 : Int32)   (g : ZS) {K : ((Int32) ⊕ (Int32 × ZS)) → Prop} (h0 : ∀ v g, K (.inr (v, g)) → xK X (some (.int v)) g) (hL2 : ∀ s, K (.inl s) → zG Y_X11_readWorths X 0 0 2 [some (.ref x0), some (.int s)] [] g) : J Y_X11_readWorths X 0 0 2 [some (.ref x0), some (.int x1)] [] g (f_X11_readWorths_2 N x0 x1 g) K := by
  unfold f_X11_readWorths_2
  refine J_iload_n rfl rfl (show Dc Y_X11_readWorths 2 (.iload_n 1) 1 3 from ⟨by decide +kernel, rfl⟩) ?_
  refine J_aload_n rfl rfl (show Dc Y_X11_readWorths 3 (.aload_n 0) 1 4 from ⟨by decide +kernel, rfl⟩) ?_
  refine J_getR (show Dc Y_X11_readWorths 4 (.getfield 10) 3 7 from ⟨by decide +kernel, rfl⟩) w_f_RX11_10 rfl (fun v1 => ?_)
  refine J_getI (show Dc Y_X11_readWorths 7 (.getfield 110) 3 10 from ⟨by decide +kernel, rfl⟩) w_f_RX11_110 rfl (fun v2 => ?_)
  refine J_icmp_ge (tg := 41) (show Dc Y_X11_readWorths 10 (.if_icmp .ge 31) 3 13 from ⟨by decide +kernel, rfl⟩) (by decide) (fun h => ?_) (fun h => ?_)
  · refine J_map (f := Sum.inr) (fun _ h => h) ?_
    refine J_aload_n rfl rfl (show Dc Y_X11_readWorths 41 (.aload_n 0) 1 42 from ⟨by decide +kernel, rfl⟩) ?_
    refine J_getR (show Dc Y_X11_readWorths 42 (.getfield 10) 3 45 from ⟨by decide +kernel, rfl⟩) w_f_RX11_10 rfl (fun v3 => ?_)
    refine J_getI (show Dc Y_X11_readWorths 45 (.getfield 110) 3 48 from ⟨by decide +kernel, rfl⟩) w_f_RX11_110 rfl (fun v4 => ?_)
    refine J_bipush (8 : Int32) rfl (show Dc Y_X11_readWorths 48 (.bipush 8) 2 50 from ⟨by decide +kernel, rfl⟩) ?_
    refine J_icmp_ge (tg := 63) (show Dc Y_X11_readWorths 50 (.if_icmp .ge 13) 3 53 from ⟨by decide +kernel, rfl⟩) (by decide) (fun h => ?_) (fun h => ?_)
    · refine J_iconst (0 : Int32) rfl (show Dc Y_X11_readWorths 63 (.iconst 0) 1 64 from ⟨by decide +kernel, rfl⟩) ?_
      refine J_istore_n [some (.ref x0), some (.int (0 : Int32))] (show Dc Y_X11_readWorths 64 (.istore_n 1) 1 65 from ⟨by decide +kernel, rfl⟩) rfl (by decide) rfl rfl ?_
      exact J_loop (X := X) (K := (fun o => K (.inr o))) (uc := fun _ => 0) (us := fun _ => 0) (lf := fun s => [some (.ref x0), some (.int s.1)]) (gf := fun s => s.2) (fun s => j_X11_readWorths_65 (K := zKl Y_X11_readWorths X 65 (fun _ => 0) (fun _ => 0) (fun s => [some (.ref x0), some (.int s.1)]) (fun s => s.2) (fun o => K (.inr o))) N x0 s.1 s.2 h0 (fun s h => h)) N ((0 : Int32), g)
    · refine J_iconst (-1 : Int32) rfl (show Dc Y_X11_readWorths 53 (.iconst (-1)) 1 54 from ⟨by decide +kernel, rfl⟩) ?_
      refine J_aload_n rfl rfl (show Dc Y_X11_readWorths 54 (.aload_n 0) 1 55 from ⟨by decide +kernel, rfl⟩) ?_
      refine J_getR (show Dc Y_X11_readWorths 55 (.getfield 10) 3 58 from ⟨by decide +kernel, rfl⟩) w_f_RX11_10 rfl (fun v5 => ?_)
      refine J_getI (show Dc Y_X11_readWorths 58 (.getfield 110) 3 61 from ⟨by decide +kernel, rfl⟩) w_f_RX11_110 rfl (fun v6 => ?_)
      refine J_isub (show Dc Y_X11_readWorths 61 (.isub) 1 62 from ⟨by decide +kernel, rfl⟩) ?_
      exact J_reti (show Dc Y_X11_readWorths 62 (.ireturn) 1 63 from ⟨by decide +kernel, rfl⟩) rfl (h0 _ _) (by decide) (by decide)
  · refine J_iload_n rfl rfl (show Dc Y_X11_readWorths 13 (.iload_n 1) 1 14 from ⟨by decide +kernel, rfl⟩) ?_
    refine J_bipush (8 : Int32) rfl (show Dc Y_X11_readWorths 14 (.bipush 8) 2 16 from ⟨by decide +kernel, rfl⟩) ?_
    refine J_icmp_ge (tg := 31) (show Dc Y_X11_readWorths 16 (.if_icmp .ge 15) 3 19 from ⟨by decide +kernel, rfl⟩) (by decide) (fun h => ?_) (fun h => ?_)
    · refine J_mask [false, true] ?_
      refine J_map (f := Sum.inr) (fun _ h => h) ?_
      exact j_X11_readWorths_31 (K := fun o => K (.inr o)) N x1 g h0
    · refine J_aload_n rfl rfl (show Dc Y_X11_readWorths 19 (.aload_n 0) 1 20 from ⟨by decide +kernel, rfl⟩) ?_
      refine J_getR (show Dc Y_X11_readWorths 20 (.getfield 10) 3 23 from ⟨by decide +kernel, rfl⟩) w_f_RX11_10 rfl (fun v7 => ?_)
      refine J_iload_n rfl rfl (show Dc Y_X11_readWorths 23 (.iload_n 1) 1 24 from ⟨by decide +kernel, rfl⟩) ?_
      refine J_callVi (fun r => r) (fun _ => g) (show Dc Y_X11_readWorths 24 (.invokevirtual 135) 3 27 from ⟨by decide +kernel, rfl⟩) w_m_RX11_135 w_in_X8_digitAt rfl w_se_X8_digitAt w_cw_X8_digitAt (c_X8_digitAt v7 x1 g) rfl rfl (by decide) (Nat.le_of_ble_eq_true rfl) (by decide) (by decide) (fun v8 => ?_)
      refine J_iconst (-1 : Int32) rfl (show Dc Y_X11_readWorths 27 (.iconst (-1)) 1 28 from ⟨by decide +kernel, rfl⟩) ?_
      refine J_icmp_ne (tg := 35) (show Dc Y_X11_readWorths 28 (.if_icmp .ne 7) 3 31 from ⟨by decide +kernel, rfl⟩) (by decide) (fun h => ?_) (fun h => ?_)
      · refine J_iinc (1 : Int32) [some (.ref x0), some (.int (x1 + (1 : Int32)))] (show Dc Y_X11_readWorths 35 (.iinc 1 1) 3 38 from ⟨by decide +kernel, rfl⟩) rfl rfl (by decide) rfl rfl ?_
        refine J_goto (tg := 2) (show Dc Y_X11_readWorths 38 (.goto (-36)) 3 41 from ⟨by decide +kernel, rfl⟩) (by decide) ?_
        exact J_leaf (fun h => hL2 (x1 + (1 : Int32)) h)
      · refine J_mask [false, true] ?_
        refine J_map (f := Sum.inr) (fun _ h => h) ?_
        exact j_X11_readWorths_31 (K := fun o => K (.inr o)) N x1 g h0

theorem j_X11_readWorths {X : ZX} (N : Nat) (x0 : Nat)   (g : ZS) {K : (Int32 × ZS) → Prop} (h0 : ∀ v g, K (v, g) → xK X (some (.int v)) g) : J Y_X11_readWorths X 0 0 0 [some (.ref x0), none] [] g (f_X11_readWorths N x0 g) K := by
  unfold f_X11_readWorths
  refine J_iconst (0 : Int32) rfl (show Dc Y_X11_readWorths 0 (.iconst 0) 1 1 from ⟨by decide +kernel, rfl⟩) ?_
  refine J_istore_n [some (.ref x0), some (.int (0 : Int32))] (show Dc Y_X11_readWorths 1 (.istore_n 1) 1 2 from ⟨by decide +kernel, rfl⟩) rfl (by decide) rfl rfl ?_
  exact J_loop (X := X) (K := K) (uc := fun _ => 0) (us := fun _ => 0) (lf := fun s => [some (.ref x0), some (.int s)]) (gf := fun s => g) (fun s => j_X11_readWorths_2 (K := zKl Y_X11_readWorths X 2 (fun _ => 0) (fun _ => 0) (fun s => [some (.ref x0), some (.int s)]) (fun s => g) K) N x0 s g h0 (fun s h => h)) N (0 : Int32)

theorem c_X11_readWorths {l : Launch} {D : ZD} {B0 : Nat} (N : Nat) (x0 : Nat) (g : ZS) : ∀ r, f_X11_readWorths N x0 g = some r → zCt l D B0 yX11_readWorths Y_X11_readWorths [.ref x0] g (some (.int r.1)) r.2 :=
  zCt_ofF (vo := fun r => some (.int r.1)) (so := fun r => r.2) (by decide +kernel) rfl (fun h => by cases h) rfl (Nat.le_of_ble_eq_true rfl) (fun X => j_X11_readWorths N x0 g (fun _ _ h => h))

theorem j_X11_worths {X : ZX} (N : Nat) (x0 : Nat)   (g : ZS) {K : (Int32 × ZS) → Prop} (h0 : ∀ v g, K (v, g) → xK X (some (.int v)) g) : J Y_X11_worths X 0 0 0 [some (.ref x0), none] [] g (f_X11_worths N x0 g) K := by
  unfold f_X11_worths
  refine J_aload_n rfl rfl (show Dc Y_X11_worths 0 (.aload_n 0) 1 1 from ⟨by decide +kernel, rfl⟩) ?_
  refine J_callVi (fun r => r.1) (fun r => r.2) (show Dc Y_X11_worths 1 (.invokevirtual 151) 3 4 from ⟨by decide +kernel, rfl⟩) w_m_RX11_151 w_in_X11_readWorths rfl w_se_X11_readWorths w_cw_X11_readWorths (c_X11_readWorths N x0 g) rfl rfl (by decide) (Nat.le_of_ble_eq_true rfl) (by decide) (by decide) (fun r1 => ?_)
  refine J_istore_n [some (.ref x0), some (.int r1.1)] (show Dc Y_X11_worths 4 (.istore_n 1) 1 5 from ⟨by decide +kernel, rfl⟩) rfl (by decide) rfl rfl ?_
  refine J_aload_n rfl rfl (show Dc Y_X11_worths 5 (.aload_n 0) 1 6 from ⟨by decide +kernel, rfl⟩) ?_
  refine J_getR (show Dc Y_X11_worths 6 (.getfield 10) 3 9 from ⟨by decide +kernel, rfl⟩) w_f_RX11_10 rfl (fun v2 => ?_)
  refine J_iconst (0 : Int32) rfl (show Dc Y_X11_worths 9 (.iconst 0) 1 10 from ⟨by decide +kernel, rfl⟩) ?_
  refine J_putI (show Dc Y_X11_worths 10 (.putfield 110) 3 13 from ⟨by decide +kernel, rfl⟩) w_f_RX11_110 rfl rfl (fun g3 => ?_) (fun h => by cases h)
  refine J_iload_n rfl rfl (show Dc Y_X11_worths 13 (.iload_n 1) 1 14 from ⟨by decide +kernel, rfl⟩) ?_
  exact J_reti (show Dc Y_X11_worths 14 (.ireturn) 1 15 from ⟨by decide +kernel, rfl⟩) rfl (h0 _ _) (by decide) (by decide)

theorem c_X11_worths {l : Launch} {D : ZD} {B0 : Nat} (N : Nat) (x0 : Nat) (g : ZS) : ∀ r, f_X11_worths N x0 g = some r → zCt l D B0 yX11_worths Y_X11_worths [.ref x0] g (some (.int r.1)) r.2 :=
  zCt_ofF (vo := fun r => some (.int r.1)) (so := fun r => r.2) (by decide +kernel) rfl (fun h => by cases h) rfl (Nat.le_of_ble_eq_true rfl) (fun X => j_X11_worths N x0 g (fun _ _ h => h))

theorem j_X12_worths_66 {X : ZX} (N : Nat) (x0 : Nat) (x1 : Int32) (x2 : Int32)   (g : ZS) {K : ((Int32 × ZS) ⊕ (Int32 × ZS)) → Prop} (h0 : ∀ v g, K (.inr (v, g)) → xK X (some (.int v)) g) (hL66 : ∀ s, K (.inl s) → zG Y_X12_worths X 0 0 66 [some (.ref x0), some (.int x1), some (.int s.1)] [] s.2) : J Y_X12_worths X 0 0 66 [some (.ref x0), some (.int x1), some (.int x2)] [] g (f_X12_worths_66 N x0 x1 x2 g) K := by
  unfold f_X12_worths_66
  refine J_iload_n rfl rfl (show Dc Y_X12_worths 66 (.iload_n 2) 1 67 from ⟨by decide +kernel, rfl⟩) ?_
  refine J_bipush (8 : Int32) rfl (show Dc Y_X12_worths 67 (.bipush 8) 2 69 from ⟨by decide +kernel, rfl⟩) ?_
  refine J_icmp_ge (tg := 90) (show Dc Y_X12_worths 69 (.if_icmp .ge 21) 3 72 from ⟨by decide +kernel, rfl⟩) (by decide) (fun h => ?_) (fun h => ?_)
  · refine J_map (f := Sum.inr) (fun _ h => h) ?_
    refine J_iload_n rfl rfl (show Dc Y_X12_worths 90 (.iload_n 1) 1 91 from ⟨by decide +kernel, rfl⟩) ?_
    exact J_reti (show Dc Y_X12_worths 91 (.ireturn) 1 92 from ⟨by decide +kernel, rfl⟩) rfl (h0 _ _) (by decide) (by decide)
  · refine J_aload_n rfl rfl (show Dc Y_X12_worths 72 (.aload_n 0) 1 73 from ⟨by decide +kernel, rfl⟩) ?_
    refine J_getR (show Dc Y_X12_worths 73 (.getfield 16) 3 76 from ⟨by decide +kernel, rfl⟩) w_f_RX12_16 rfl (fun v1 => ?_)
    refine J_iload_n rfl rfl (show Dc Y_X12_worths 76 (.iload_n 2) 1 77 from ⟨by decide +kernel, rfl⟩) ?_
    refine J_aload_n rfl rfl (show Dc Y_X12_worths 77 (.aload_n 0) 1 78 from ⟨by decide +kernel, rfl⟩) ?_
    refine J_getR (show Dc Y_X12_worths 78 (.getfield 33) 3 81 from ⟨by decide +kernel, rfl⟩) w_f_RX12_33 rfl (fun v2 => ?_)
    refine J_iload_n rfl rfl (show Dc Y_X12_worths 81 (.iload_n 2) 1 82 from ⟨by decide +kernel, rfl⟩) ?_
    refine J_iald (show Dc Y_X12_worths 82 (.iaload) 1 83 from ⟨by decide +kernel, rfl⟩) (fun v3 => ?_)
    refine J_iast (show Dc Y_X12_worths 83 (.iastore) 1 84 from ⟨by decide +kernel, rfl⟩) (fun g4 => ?_)
    refine J_iinc (1 : Int32) [some (.ref x0), some (.int x1), some (.int (x2 + (1 : Int32)))] (show Dc Y_X12_worths 84 (.iinc 2 1) 3 87 from ⟨by decide +kernel, rfl⟩) rfl rfl (by decide) rfl rfl ?_
    refine J_goto (tg := 66) (show Dc Y_X12_worths 87 (.goto (-21)) 3 90 from ⟨by decide +kernel, rfl⟩) (by decide) ?_
    exact J_leaf (fun h => hL66 (x2 + (1 : Int32), g4) h)

theorem j_X12_worths_15 {X : ZX} (N : Nat) (x0 : Nat) (x1 : Int32) (x2 : Int32)   (g : ZS) {K : ((Int32 × Int32 × ZS) ⊕ (Int32 × ZS)) → Prop} (h0 : ∀ v g, K (.inr (v, g)) → xK X (some (.int v)) g) (hL15 : ∀ s, K (.inl s) → zG Y_X12_worths X 0 0 15 [some (.ref x0), some (.int s.1), some (.int s.2.1)] [] s.2.2) : J Y_X12_worths X 0 0 15 [some (.ref x0), some (.int x1), some (.int x2)] [] g (f_X12_worths_15 N x0 x1 x2 g) K := by
  unfold f_X12_worths_15
  refine J_iload_n rfl rfl (show Dc Y_X12_worths 15 (.iload_n 2) 1 16 from ⟨by decide +kernel, rfl⟩) ?_
  refine J_bipush (8 : Int32) rfl (show Dc Y_X12_worths 16 (.bipush 8) 2 18 from ⟨by decide +kernel, rfl⟩) ?_
  refine J_icmp_ge (tg := 50) (show Dc Y_X12_worths 18 (.if_icmp .ge 32) 3 21 from ⟨by decide +kernel, rfl⟩) (by decide) (fun h => ?_) (fun h => ?_)
  · refine J_map (f := Sum.inr) (fun _ h => h) ?_
    refine J_aload_n rfl rfl (show Dc Y_X12_worths 50 (.aload_n 0) 1 51 from ⟨by decide +kernel, rfl⟩) ?_
    refine J_callVi (fun r => r.1) (fun r => r.2) (show Dc Y_X12_worths 51 (.invokevirtual 168) 3 54 from ⟨by decide +kernel, rfl⟩) w_m_RX12_168 w_in_X12_wasRight rfl w_se_X12_wasRight w_cw_X12_wasRight (c_X12_wasRight x0 g) rfl rfl (by decide) (Nat.le_of_ble_eq_true rfl) (by decide) (by decide) (fun r1 => ?_)
    refine J_if_ne (tg := 64) (show Dc Y_X12_worths 54 (.ifCond .ne 10) 3 57 from ⟨by decide +kernel, rfl⟩) (by decide) (fun h => ?_) (fun h => ?_)
    · refine J_iconst (0 : Int32) rfl (show Dc Y_X12_worths 64 (.iconst 0) 1 65 from ⟨by decide +kernel, rfl⟩) ?_
      refine J_istore_n [some (.ref x0), some (.int x1), some (.int (0 : Int32))] (show Dc Y_X12_worths 65 (.istore_n 2) 1 66 from ⟨by decide +kernel, rfl⟩) rfl (by decide) rfl rfl ?_
      exact J_loop (X := X) (K := (fun o => K (.inr o))) (uc := fun _ => 0) (us := fun _ => 0) (lf := fun s => [some (.ref x0), some (.int x1), some (.int s.1)]) (gf := fun s => s.2) (fun s => j_X12_worths_66 (K := zKl Y_X12_worths X 66 (fun _ => 0) (fun _ => 0) (fun s => [some (.ref x0), some (.int x1), some (.int s.1)]) (fun s => s.2) (fun o => K (.inr o))) N x0 x1 s.1 s.2 h0 (fun s h => h)) N ((0 : Int32), r1.2)
    · refine J_iconst (-1 : Int32) rfl (show Dc Y_X12_worths 57 (.iconst (-1)) 1 58 from ⟨by decide +kernel, rfl⟩) ?_
      refine J_aload_n rfl rfl (show Dc Y_X12_worths 58 (.aload_n 0) 1 59 from ⟨by decide +kernel, rfl⟩) ?_
      refine J_getI (show Dc Y_X12_worths 59 (.getfield 138) 3 62 from ⟨by decide +kernel, rfl⟩) w_f_RX12_138 rfl (fun v2 => ?_)
      refine J_isub (show Dc Y_X12_worths 62 (.isub) 1 63 from ⟨by decide +kernel, rfl⟩) ?_
      exact J_reti (show Dc Y_X12_worths 63 (.ireturn) 1 64 from ⟨by decide +kernel, rfl⟩) rfl (h0 _ _) (by decide) (by decide)
  · refine J_aload_n rfl rfl (show Dc Y_X12_worths 21 (.aload_n 0) 1 22 from ⟨by decide +kernel, rfl⟩) ?_
    refine J_getR (show Dc Y_X12_worths 22 (.getfield 33) 3 25 from ⟨by decide +kernel, rfl⟩) w_f_RX12_33 rfl (fun v3 => ?_)
    refine J_iload_n rfl rfl (show Dc Y_X12_worths 25 (.iload_n 2) 1 26 from ⟨by decide +kernel, rfl⟩) ?_
    refine J_aload_n rfl rfl (show Dc Y_X12_worths 26 (.aload_n 0) 1 27 from ⟨by decide +kernel, rfl⟩) ?_
    refine J_bipush (48 : Int32) rfl (show Dc Y_X12_worths 27 (.bipush 48) 2 29 from ⟨by decide +kernel, rfl⟩) ?_
    refine J_bipush (10 : Int32) rfl (show Dc Y_X12_worths 29 (.bipush 10) 2 31 from ⟨by decide +kernel, rfl⟩) ?_
    refine J_callVi (fun r => r.1) (fun r => r.2) (show Dc Y_X12_worths 31 (.invokevirtual 161) 3 34 from ⟨by decide +kernel, rfl⟩) w_m_RX12_161 w_in_X12_oneOf rfl w_se_X12_oneOf w_cw_X12_oneOf (c_X12_oneOf x0 (48 : Int32) (10 : Int32) g) rfl rfl (by decide) (Nat.le_of_ble_eq_true rfl) (by decide) (by decide) (fun r4 => ?_)
    refine J_iast (show Dc Y_X12_worths 34 (.iastore) 1 35 from ⟨by decide +kernel, rfl⟩) (fun g5 => ?_)
    refine J_iload_n rfl rfl (show Dc Y_X12_worths 35 (.iload_n 1) 1 36 from ⟨by decide +kernel, rfl⟩) ?_
    refine J_aload_n rfl rfl (show Dc Y_X12_worths 36 (.aload_n 0) 1 37 from ⟨by decide +kernel, rfl⟩) ?_
    refine J_getR (show Dc Y_X12_worths 37 (.getfield 33) 3 40 from ⟨by decide +kernel, rfl⟩) w_f_RX12_33 rfl (fun v6 => ?_)
    refine J_iload_n rfl rfl (show Dc Y_X12_worths 40 (.iload_n 2) 1 41 from ⟨by decide +kernel, rfl⟩) ?_
    refine J_iald (show Dc Y_X12_worths 41 (.iaload) 1 42 from ⟨by decide +kernel, rfl⟩) (fun v7 => ?_)
    refine J_iadd (show Dc Y_X12_worths 42 (.iadd) 1 43 from ⟨by decide +kernel, rfl⟩) ?_
    refine J_istore_n [some (.ref x0), some (.int (x1 + v7)), some (.int x2)] (show Dc Y_X12_worths 43 (.istore_n 1) 1 44 from ⟨by decide +kernel, rfl⟩) rfl (by decide) rfl rfl ?_
    refine J_iinc (1 : Int32) [some (.ref x0), some (.int (x1 + v7)), some (.int (x2 + (1 : Int32)))] (show Dc Y_X12_worths 44 (.iinc 2 1) 3 47 from ⟨by decide +kernel, rfl⟩) rfl rfl (by decide) rfl rfl ?_
    refine J_goto (tg := 15) (show Dc Y_X12_worths 47 (.goto (-32)) 3 50 from ⟨by decide +kernel, rfl⟩) (by decide) ?_
    exact J_leaf (fun h => hL15 (x1 + v7, x2 + (1 : Int32), g5) h)

theorem j_X12_worths {X : ZX} (N : Nat) (x0 : Nat)   (g : ZS) {K : (Int32 × ZS) → Prop} (h0 : ∀ v g, K (v, g) → xK X (some (.int v)) g) : J Y_X12_worths X 0 0 0 [some (.ref x0), none, none] [] g (f_X12_worths N x0 g) K := by
  unfold f_X12_worths
  refine J_aload_n rfl rfl (show Dc Y_X12_worths 0 (.aload_n 0) 1 1 from ⟨by decide +kernel, rfl⟩) ?_
  refine J_iconst (0 : Int32) rfl (show Dc Y_X12_worths 1 (.iconst 0) 1 2 from ⟨by decide +kernel, rfl⟩) ?_
  refine J_putI (show Dc Y_X12_worths 2 (.putfield 109) 3 5 from ⟨by decide +kernel, rfl⟩) w_f_RX12_109 rfl rfl (fun g1 => ?_) (fun h => by cases h)
  refine J_aload_n rfl rfl (show Dc Y_X12_worths 5 (.aload_n 0) 1 6 from ⟨by decide +kernel, rfl⟩) ?_
  refine J_bipush (8 : Int32) rfl (show Dc Y_X12_worths 6 (.bipush 8) 2 8 from ⟨by decide +kernel, rfl⟩) ?_
  refine J_callVv (fun r => r) (show Dc Y_X12_worths 8 (.invokevirtual 165) 3 11 from ⟨by decide +kernel, rfl⟩) w_m_RX12_165 w_in_X12_beginText rfl w_se_X12_beginText w_cw_X12_beginText (c_X12_beginText x0 (8 : Int32) g1) rfl rfl (by decide) (Nat.le_of_ble_eq_true rfl) (by decide) (by decide) (fun g2 => ?_)
  refine J_iconst (0 : Int32) rfl (show Dc Y_X12_worths 11 (.iconst 0) 1 12 from ⟨by decide +kernel, rfl⟩) ?_
  refine J_istore_n [some (.ref x0), some (.int (0 : Int32)), none] (show Dc Y_X12_worths 12 (.istore_n 1) 1 13 from ⟨by decide +kernel, rfl⟩) rfl (by decide) rfl rfl ?_
  refine J_iconst (0 : Int32) rfl (show Dc Y_X12_worths 13 (.iconst 0) 1 14 from ⟨by decide +kernel, rfl⟩) ?_
  refine J_istore_n [some (.ref x0), some (.int (0 : Int32)), some (.int (0 : Int32))] (show Dc Y_X12_worths 14 (.istore_n 2) 1 15 from ⟨by decide +kernel, rfl⟩) rfl (by decide) rfl rfl ?_
  exact J_loop (X := X) (K := K) (uc := fun _ => 0) (us := fun _ => 0) (lf := fun s => [some (.ref x0), some (.int s.1), some (.int s.2.1)]) (gf := fun s => s.2.2) (fun s => j_X12_worths_15 (K := zKl Y_X12_worths X 15 (fun _ => 0) (fun _ => 0) (fun s => [some (.ref x0), some (.int s.1), some (.int s.2.1)]) (fun s => s.2.2) K) N x0 s.1 s.2.1 s.2.2 h0 (fun s h => h)) N ((0 : Int32), (0 : Int32), g2)

theorem c_X12_worths {l : Launch} {D : ZD} {B0 : Nat} (N : Nat) (x0 : Nat) (g : ZS) : ∀ r, f_X12_worths N x0 g = some r → zCt l D B0 yX12_worths Y_X12_worths [.ref x0] g (some (.int r.1)) r.2 :=
  zCt_ofF (vo := fun r => some (.int r.1)) (so := fun r => r.2) (by decide +kernel) rfl (fun h => by cases h) rfl (Nat.le_of_ble_eq_true rfl) (fun X => j_X12_worths N x0 g (fun _ _ h => h))

theorem j_X5_lengthen_24 {X : ZX}    (g : ZS) {K : (Int32 × ZS) → Prop} (h0 : ∀ v g, K (v, g) → xK X (some (.int v)) g) : J Y_X5_lengthen X 0 0 24 [none, none] [] g (f_X5_lengthen_24 g) K := by
  unfold f_X5_lengthen_24
  refine J_iconst (0 : Int32) rfl (show Dc Y_X5_lengthen 24 (.iconst 0) 1 25 from ⟨by decide +kernel, rfl⟩) ?_
  exact J_retz rfl (show Dc Y_X5_lengthen 25 (.ireturn) 1 26 from ⟨by decide +kernel, rfl⟩) rfl (h0 _ _) (by decide) (by decide)

theorem j_X5_lengthen {X : ZX} (x0 : Nat) (x1 : Int32)   (g : ZS) {K : (Int32 × ZS) → Prop} (h0 : ∀ v g, K (v, g) → xK X (some (.int v)) g) : J Y_X5_lengthen X 0 0 0 [some (.ref x0), some (.int x1)] [] g (f_X5_lengthen x0 x1 g) K := by
  unfold f_X5_lengthen
  refine J_aload_n rfl rfl (show Dc Y_X5_lengthen 0 (.aload_n 0) 1 1 from ⟨by decide +kernel, rfl⟩) ?_
  refine J_getI (show Dc Y_X5_lengthen 1 (.getfield 75) 3 4 from ⟨by decide +kernel, rfl⟩) w_f_RX5_75 rfl (fun v1 => ?_)
  refine J_iconst (1 : Int32) rfl (show Dc Y_X5_lengthen 4 (.iconst 1) 1 5 from ⟨by decide +kernel, rfl⟩) ?_
  refine J_icmp_lt (tg := 24) (show Dc Y_X5_lengthen 5 (.if_icmp .lt 19) 3 8 from ⟨by decide +kernel, rfl⟩) (by decide) (fun h => ?_) (fun h => ?_)
  · refine J_mask [false, false] ?_
    exact j_X5_lengthen_24 g h0
  · refine J_aload_n rfl rfl (show Dc Y_X5_lengthen 8 (.aload_n 0) 1 9 from ⟨by decide +kernel, rfl⟩) ?_
    refine J_getI (show Dc Y_X5_lengthen 9 (.getfield 75) 3 12 from ⟨by decide +kernel, rfl⟩) w_f_RX5_75 rfl (fun v2 => ?_)
    refine J_iconst (2 : Int32) rfl (show Dc Y_X5_lengthen 12 (.iconst 2) 1 13 from ⟨by decide +kernel, rfl⟩) ?_
    refine J_icmp_gt (tg := 24) (show Dc Y_X5_lengthen 13 (.if_icmp .gt 11) 3 16 from ⟨by decide +kernel, rfl⟩) (by decide) (fun h => ?_) (fun h => ?_)
    · refine J_mask [false, false] ?_
      exact j_X5_lengthen_24 g h0
    · refine J_aload_n rfl rfl (show Dc Y_X5_lengthen 16 (.aload_n 0) 1 17 from ⟨by decide +kernel, rfl⟩) ?_
      refine J_getI (show Dc Y_X5_lengthen 17 (.getfield 25) 3 20 from ⟨by decide +kernel, rfl⟩) w_f_RX5_25 rfl (fun v3 => ?_)
      refine J_iconst (1 : Int32) rfl (show Dc Y_X5_lengthen 20 (.iconst 1) 1 21 from ⟨by decide +kernel, rfl⟩) ?_
      refine J_icmp_ge (tg := 26) (show Dc Y_X5_lengthen 21 (.if_icmp .ge 5) 3 24 from ⟨by decide +kernel, rfl⟩) (by decide) (fun h => ?_) (fun h => ?_)
      · refine J_aload_n rfl rfl (show Dc Y_X5_lengthen 26 (.aload_n 0) 1 27 from ⟨by decide +kernel, rfl⟩) ?_
        refine J_getR (show Dc Y_X5_lengthen 27 (.getfield 9) 3 30 from ⟨by decide +kernel, rfl⟩) w_f_RX5_9 rfl (fun v4 => ?_)
        refine J_aload_n rfl rfl (show Dc Y_X5_lengthen 30 (.aload_n 0) 1 31 from ⟨by decide +kernel, rfl⟩) ?_
        refine J_getI (show Dc Y_X5_lengthen 31 (.getfield 25) 3 34 from ⟨by decide +kernel, rfl⟩) w_f_RX5_25 rfl (fun v5 => ?_)
        refine J_iconst (1 : Int32) rfl (show Dc Y_X5_lengthen 34 (.iconst 1) 1 35 from ⟨by decide +kernel, rfl⟩) ?_
        refine J_isub (show Dc Y_X5_lengthen 35 (.isub) 1 36 from ⟨by decide +kernel, rfl⟩) ?_
        refine J_aload_n rfl rfl (show Dc Y_X5_lengthen 36 (.aload_n 0) 1 37 from ⟨by decide +kernel, rfl⟩) ?_
        refine J_getR (show Dc Y_X5_lengthen 37 (.getfield 9) 3 40 from ⟨by decide +kernel, rfl⟩) w_f_RX5_9 rfl (fun v6 => ?_)
        refine J_aload_n rfl rfl (show Dc Y_X5_lengthen 40 (.aload_n 0) 1 41 from ⟨by decide +kernel, rfl⟩) ?_
        refine J_getI (show Dc Y_X5_lengthen 41 (.getfield 25) 3 44 from ⟨by decide +kernel, rfl⟩) w_f_RX5_25 rfl (fun v7 => ?_)
        refine J_iconst (1 : Int32) rfl (show Dc Y_X5_lengthen 44 (.iconst 1) 1 45 from ⟨by decide +kernel, rfl⟩) ?_
        refine J_isub (show Dc Y_X5_lengthen 45 (.isub) 1 46 from ⟨by decide +kernel, rfl⟩) ?_
        refine J_iald (show Dc Y_X5_lengthen 46 (.iaload) 1 47 from ⟨by decide +kernel, rfl⟩) (fun v8 => ?_)
        refine J_bipush (10 : Int32) rfl (show Dc Y_X5_lengthen 47 (.bipush 10) 2 49 from ⟨by decide +kernel, rfl⟩) ?_
        refine J_imul (show Dc Y_X5_lengthen 49 (.imul) 1 50 from ⟨by decide +kernel, rfl⟩) ?_
        refine J_iload_n rfl rfl (show Dc Y_X5_lengthen 50 (.iload_n 1) 1 51 from ⟨by decide +kernel, rfl⟩) ?_
        refine J_iadd (show Dc Y_X5_lengthen 51 (.iadd) 1 52 from ⟨by decide +kernel, rfl⟩) ?_
        refine J_iast (show Dc Y_X5_lengthen 52 (.iastore) 1 53 from ⟨by decide +kernel, rfl⟩) (fun g9 => ?_)
        refine J_aload_n rfl rfl (show Dc Y_X5_lengthen 53 (.aload_n 0) 1 54 from ⟨by decide +kernel, rfl⟩) ?_
        refine J_dup rfl (show Dc Y_X5_lengthen 54 (.dup) 1 55 from ⟨by decide +kernel, rfl⟩) ?_
        refine J_getI (show Dc Y_X5_lengthen 55 (.getfield 75) 3 58 from ⟨by decide +kernel, rfl⟩) w_f_RX5_75 rfl (fun v10 => ?_)
        refine J_iconst (1 : Int32) rfl (show Dc Y_X5_lengthen 58 (.iconst 1) 1 59 from ⟨by decide +kernel, rfl⟩) ?_
        refine J_iadd (show Dc Y_X5_lengthen 59 (.iadd) 1 60 from ⟨by decide +kernel, rfl⟩) ?_
        refine J_putI (show Dc Y_X5_lengthen 60 (.putfield 75) 3 63 from ⟨by decide +kernel, rfl⟩) w_f_RX5_75 rfl rfl (fun g11 => ?_) (fun h => by cases h)
        refine J_iconst (1 : Int32) rfl (show Dc Y_X5_lengthen 63 (.iconst 1) 1 64 from ⟨by decide +kernel, rfl⟩) ?_
        exact J_retz rfl (show Dc Y_X5_lengthen 64 (.ireturn) 1 65 from ⟨by decide +kernel, rfl⟩) rfl (h0 _ _) (by decide) (by decide)
      · refine J_mask [false, false] ?_
        exact j_X5_lengthen_24 g h0

theorem c_X5_lengthen {l : Launch} {D : ZD} {B0 : Nat} (x0 : Nat) (x1 : Int32) (g : ZS) : ∀ r, f_X5_lengthen x0 x1 g = some r → zCt l D B0 yX5_lengthen Y_X5_lengthen [.ref x0, .int x1] g (some (.int r.1)) r.2 :=
  zCt_ofF (vo := fun r => some (.int r.1)) (so := fun r => r.2) (by decide +kernel) rfl (fun h => by cases h) rfl (Nat.le_of_ble_eq_true rfl) (fun X => j_X5_lengthen x0 x1 g (fun _ _ h => h))

theorem j_X5_rankOf_76 {X : ZX}    (g : ZS) {K : Int32 → Prop} (h0 : ∀ v, K v → xK X (some (.int v)) g) : J Y_X5_rankOf X 0 0 76 [none] [] g (f_X5_rankOf_76) K := by
  unfold f_X5_rankOf_76
  refine J_iconst (1 : Int32) rfl (show Dc Y_X5_rankOf 76 (.iconst 1) 1 77 from ⟨by decide +kernel, rfl⟩) ?_
  exact J_reti (show Dc Y_X5_rankOf 77 (.ireturn) 1 78 from ⟨by decide +kernel, rfl⟩) rfl (h0 _) (by decide) (by decide)

theorem j_X5_rankOf_78 {X : ZX}    (g : ZS) {K : Int32 → Prop} (h0 : ∀ v, K v → xK X (some (.int v)) g) : J Y_X5_rankOf X 0 0 78 [none] [] g (f_X5_rankOf_78) K := by
  unfold f_X5_rankOf_78
  refine J_iconst (2 : Int32) rfl (show Dc Y_X5_rankOf 78 (.iconst 2) 1 79 from ⟨by decide +kernel, rfl⟩) ?_
  exact J_reti (show Dc Y_X5_rankOf 79 (.ireturn) 1 80 from ⟨by decide +kernel, rfl⟩) rfl (h0 _) (by decide) (by decide)

theorem j_X5_rankOf_80 {X : ZX}    (g : ZS) {K : Int32 → Prop} (h0 : ∀ v, K v → xK X (some (.int v)) g) : J Y_X5_rankOf X 0 0 80 [none] [] g (f_X5_rankOf_80) K := by
  unfold f_X5_rankOf_80
  refine J_iconst (3 : Int32) rfl (show Dc Y_X5_rankOf 80 (.iconst 3) 1 81 from ⟨by decide +kernel, rfl⟩) ?_
  exact J_reti (show Dc Y_X5_rankOf 81 (.ireturn) 1 82 from ⟨by decide +kernel, rfl⟩) rfl (h0 _) (by decide) (by decide)

theorem j_X5_rankOf {X : ZX} (x0 : Int32)   (g : ZS) {K : Int32 → Prop} (h0 : ∀ v, K v → xK X (some (.int v)) g) : J Y_X5_rankOf X 0 0 0 [some (.int x0)] [] g (f_X5_rankOf x0) K := by
  unfold f_X5_rankOf
  refine J_iload_n rfl rfl (show Dc Y_X5_rankOf 0 (.iload_n 0) 1 1 from ⟨by decide +kernel, rfl⟩) ?_
  refine J_lsw (tgd := 84) [((42 : Int32), 80, _), ((43 : Int32), 78, _), ((45 : Int32), 78, _), ((47 : Int32), 80, _), ((60 : Int32), 76, _), ((61 : Int32), 76, _), ((62 : Int32), 76, _), ((256 : Int32), 82, _)] (show Dc Y_X5_rankOf 1 (.lookupswitch 83 #[(42, 79), (43, 77), (45, 77), (47, 79), (60, 75), (61, 75), (62, 75), (256, 81)]) 75 76 from ⟨by decide +kernel, rfl⟩) (by decide) (by simp only [List.map_cons, List.map_nil]; decide +kernel) (by decide) ?_ ?_
  · refine List.forall_mem_cons.mpr ⟨?_, List.forall_mem_cons.mpr ⟨?_, List.forall_mem_cons.mpr ⟨?_, List.forall_mem_cons.mpr ⟨?_, List.forall_mem_cons.mpr ⟨?_, List.forall_mem_cons.mpr ⟨?_, List.forall_mem_cons.mpr ⟨?_, List.forall_mem_cons.mpr ⟨?_, fun _ h => absurd h List.not_mem_nil⟩⟩⟩⟩⟩⟩⟩⟩
    · refine J_mask [false] ?_
      exact j_X5_rankOf_80 g h0
    · refine J_mask [false] ?_
      exact j_X5_rankOf_78 g h0
    · refine J_mask [false] ?_
      exact j_X5_rankOf_78 g h0
    · refine J_mask [false] ?_
      exact j_X5_rankOf_80 g h0
    · refine J_mask [false] ?_
      exact j_X5_rankOf_76 g h0
    · refine J_mask [false] ?_
      exact j_X5_rankOf_76 g h0
    · refine J_mask [false] ?_
      exact j_X5_rankOf_76 g h0
    · refine J_iconst (4 : Int32) rfl (show Dc Y_X5_rankOf 82 (.iconst 4) 1 83 from ⟨by decide +kernel, rfl⟩) ?_
      exact J_reti (show Dc Y_X5_rankOf 83 (.ireturn) 1 84 from ⟨by decide +kernel, rfl⟩) rfl (h0 _) (by decide) (by decide)
  · refine J_iconst (0 : Int32) rfl (show Dc Y_X5_rankOf 84 (.iconst 0) 1 85 from ⟨by decide +kernel, rfl⟩) ?_
    exact J_reti (show Dc Y_X5_rankOf 85 (.ireturn) 1 86 from ⟨by decide +kernel, rfl⟩) rfl (h0 _) (by decide) (by decide)

theorem c_X5_rankOf {l : Launch} {D : ZD} {B0 : Nat} (x0 : Int32) (g : ZS) : ∀ r, f_X5_rankOf x0 = some r → zCt l D B0 yX5_rankOf Y_X5_rankOf [.int x0] g (some (.int r)) g :=
  zCt_ofF (vo := fun r => some (.int r)) (so := fun _ => g) (by decide +kernel) rfl (fun h => by cases h) rfl (Nat.le_of_ble_eq_true rfl) (fun X => j_X5_rankOf x0 g (fun _ h => h))

theorem j_X5_emit_29 {X : ZX}    (g : ZS) {K : ZS → Prop} (h0 : ∀ g, K g → xK X none g) : J Y_X5_emit X 0 0 29 [none, none] [] g (f_X5_emit_29 g) K := by
  unfold f_X5_emit_29
  exact J_ret0 (show Dc Y_X5_emit 29 (.return_) 1 30 from ⟨by decide +kernel, rfl⟩) rfl (h0 _) (by decide) (by decide)

theorem j_X5_emit {X : ZX} (x0 : Nat) (x1 : Int32)   (g : ZS) {K : ZS → Prop} (h0 : ∀ g, K g → xK X none g) : J Y_X5_emit X 0 0 0 [some (.ref x0), some (.int x1)] [] g (f_X5_emit x0 x1 g) K := by
  unfold f_X5_emit
  refine J_aload_n rfl rfl (show Dc Y_X5_emit 0 (.aload_n 0) 1 1 from ⟨by decide +kernel, rfl⟩) ?_
  refine J_getI (show Dc Y_X5_emit 1 (.getfield 25) 3 4 from ⟨by decide +kernel, rfl⟩) w_f_RX5_25 rfl (fun v1 => ?_)
  refine J_bipush (40 : Int32) rfl (show Dc Y_X5_emit 4 (.bipush 40) 2 6 from ⟨by decide +kernel, rfl⟩) ?_
  refine J_icmp_ge (tg := 29) (show Dc Y_X5_emit 6 (.if_icmp .ge 23) 3 9 from ⟨by decide +kernel, rfl⟩) (by decide) (fun h => ?_) (fun h => ?_)
  · refine J_mask [false, false] ?_
    exact j_X5_emit_29 g h0
  · refine J_aload_n rfl rfl (show Dc Y_X5_emit 9 (.aload_n 0) 1 10 from ⟨by decide +kernel, rfl⟩) ?_
    refine J_getR (show Dc Y_X5_emit 10 (.getfield 9) 3 13 from ⟨by decide +kernel, rfl⟩) w_f_RX5_9 rfl (fun v2 => ?_)
    refine J_aload_n rfl rfl (show Dc Y_X5_emit 13 (.aload_n 0) 1 14 from ⟨by decide +kernel, rfl⟩) ?_
    refine J_getI (show Dc Y_X5_emit 14 (.getfield 25) 3 17 from ⟨by decide +kernel, rfl⟩) w_f_RX5_25 rfl (fun v3 => ?_)
    refine J_iload_n rfl rfl (show Dc Y_X5_emit 17 (.iload_n 1) 1 18 from ⟨by decide +kernel, rfl⟩) ?_
    refine J_iast (show Dc Y_X5_emit 18 (.iastore) 1 19 from ⟨by decide +kernel, rfl⟩) (fun g4 => ?_)
    refine J_aload_n rfl rfl (show Dc Y_X5_emit 19 (.aload_n 0) 1 20 from ⟨by decide +kernel, rfl⟩) ?_
    refine J_dup rfl (show Dc Y_X5_emit 20 (.dup) 1 21 from ⟨by decide +kernel, rfl⟩) ?_
    refine J_getI (show Dc Y_X5_emit 21 (.getfield 25) 3 24 from ⟨by decide +kernel, rfl⟩) w_f_RX5_25 rfl (fun v5 => ?_)
    refine J_iconst (1 : Int32) rfl (show Dc Y_X5_emit 24 (.iconst 1) 1 25 from ⟨by decide +kernel, rfl⟩) ?_
    refine J_iadd (show Dc Y_X5_emit 25 (.iadd) 1 26 from ⟨by decide +kernel, rfl⟩) ?_
    refine J_putI (show Dc Y_X5_emit 26 (.putfield 25) 3 29 from ⟨by decide +kernel, rfl⟩) w_f_RX5_25 rfl rfl (fun g6 => ?_) (fun h => by cases h)
    refine J_mask [false, false] ?_
    exact j_X5_emit_29 g6 h0

theorem c_X5_emit {l : Launch} {D : ZD} {B0 : Nat} (x0 : Nat) (x1 : Int32) (g : ZS) : ∀ r, f_X5_emit x0 x1 g = some r → zCt l D B0 yX5_emit Y_X5_emit [.ref x0, .int x1] g none r :=
  zCt_ofF (vo := fun _ => none) (so := fun r => r) (by decide +kernel) rfl (fun h => by cases h) rfl (Nat.le_of_ble_eq_true rfl) (fun X => j_X5_emit x0 x1 g (fun _ h => h))

theorem j_X5_release_55 {X : ZX} (N : Nat)    (g : ZS) {K : ZS → Prop} (h0 : ∀ g, K g → xK X none g) : J Y_X5_release X 0 0 55 [none, none] [] g (f_X5_release_55 N g) K := by
  unfold f_X5_release_55
  exact J_ret0 (show Dc Y_X5_release 55 (.return_) 1 56 from ⟨by decide +kernel, rfl⟩) rfl (h0 _) (by decide) (by decide)

theorem j_X5_release_0b {X : ZX} (N : Nat) (x0 : Nat) (x1 : Int32)   (g : ZS) {K : ((ZS) ⊕ ZS) → Prop} (h0 : ∀ g, K (.inr g) → xK X none g) (hL0 : ∀ s, K (.inl s) → zG Y_X5_release X 0 0 0 [some (.ref x0), some (.int x1)] [] s) : J Y_X5_release X 0 0 0 [some (.ref x0), some (.int x1)] [] g (f_X5_release_0b N x0 x1 g) K := by
  unfold f_X5_release_0b
  refine J_aload_n rfl rfl (show Dc Y_X5_release 0 (.aload_n 0) 1 1 from ⟨by decide +kernel, rfl⟩) ?_
  refine J_getI (show Dc Y_X5_release 1 (.getfield 29) 3 4 from ⟨by decide +kernel, rfl⟩) w_f_RX5_29 rfl (fun v1 => ?_)
  refine J_if_le (tg := 55) (show Dc Y_X5_release 4 (.ifCond .le 51) 3 7 from ⟨by decide +kernel, rfl⟩) (by decide) (fun h => ?_) (fun h => ?_)
  · refine J_mask [false, false] ?_
    refine J_map (f := Sum.inr) (fun _ h => h) ?_
    exact j_X5_release_55 (K := fun o => K (.inr o)) N g h0
  · refine J_aload_n rfl rfl (show Dc Y_X5_release 7 (.aload_n 0) 1 8 from ⟨by decide +kernel, rfl⟩) ?_
    refine J_getR (show Dc Y_X5_release 8 (.getfield 18) 3 11 from ⟨by decide +kernel, rfl⟩) w_f_RX5_18 rfl (fun v2 => ?_)
    refine J_aload_n rfl rfl (show Dc Y_X5_release 11 (.aload_n 0) 1 12 from ⟨by decide +kernel, rfl⟩) ?_
    refine J_getI (show Dc Y_X5_release 12 (.getfield 29) 3 15 from ⟨by decide +kernel, rfl⟩) w_f_RX5_29 rfl (fun v3 => ?_)
    refine J_iconst (1 : Int32) rfl (show Dc Y_X5_release 15 (.iconst 1) 1 16 from ⟨by decide +kernel, rfl⟩) ?_
    refine J_isub (show Dc Y_X5_release 16 (.isub) 1 17 from ⟨by decide +kernel, rfl⟩) ?_
    refine J_iald (show Dc Y_X5_release 17 (.iaload) 1 18 from ⟨by decide +kernel, rfl⟩) (fun v4 => ?_)
    refine J_callSi (fun r => r) (fun _ => g) (show Dc Y_X5_release 18 (.invokestatic 85) 3 21 from ⟨by decide +kernel, rfl⟩) w_m_RX5_85 w_st_X5_rankOf w_cw_X5_rankOf (c_X5_rankOf v4 g) rfl rfl (by decide) (Nat.le_of_ble_eq_true rfl) (by decide) (by decide) (fun v5 => ?_)
    refine J_iload_n rfl rfl (show Dc Y_X5_release 21 (.iload_n 1) 1 22 from ⟨by decide +kernel, rfl⟩) ?_
    refine J_icmp_lt (tg := 55) (show Dc Y_X5_release 22 (.if_icmp .lt 33) 3 25 from ⟨by decide +kernel, rfl⟩) (by decide) (fun h => ?_) (fun h => ?_)
    · refine J_mask [false, false] ?_
      refine J_map (f := Sum.inr) (fun _ h => h) ?_
      exact j_X5_release_55 (K := fun o => K (.inr o)) N g h0
    · refine J_aload_n rfl rfl (show Dc Y_X5_release 25 (.aload_n 0) 1 26 from ⟨by decide +kernel, rfl⟩) ?_
      refine J_dup rfl (show Dc Y_X5_release 26 (.dup) 1 27 from ⟨by decide +kernel, rfl⟩) ?_
      refine J_getI (show Dc Y_X5_release 27 (.getfield 29) 3 30 from ⟨by decide +kernel, rfl⟩) w_f_RX5_29 rfl (fun v6 => ?_)
      refine J_iconst (1 : Int32) rfl (show Dc Y_X5_release 30 (.iconst 1) 1 31 from ⟨by decide +kernel, rfl⟩) ?_
      refine J_isub (show Dc Y_X5_release 31 (.isub) 1 32 from ⟨by decide +kernel, rfl⟩) ?_
      refine J_putI (show Dc Y_X5_release 32 (.putfield 29) 3 35 from ⟨by decide +kernel, rfl⟩) w_f_RX5_29 rfl rfl (fun g7 => ?_) (fun h => by cases h)
      refine J_aload_n rfl rfl (show Dc Y_X5_release 35 (.aload_n 0) 1 36 from ⟨by decide +kernel, rfl⟩) ?_
      refine J_sipush (2000 : Int32) rfl (show Dc Y_X5_release 36 (.sipush 2000) 3 39 from ⟨by decide +kernel, rfl⟩) ?_
      refine J_aload_n rfl rfl (show Dc Y_X5_release 39 (.aload_n 0) 1 40 from ⟨by decide +kernel, rfl⟩) ?_
      refine J_getR (show Dc Y_X5_release 40 (.getfield 18) 3 43 from ⟨by decide +kernel, rfl⟩) w_f_RX5_18 rfl (fun v8 => ?_)
      refine J_aload_n rfl rfl (show Dc Y_X5_release 43 (.aload_n 0) 1 44 from ⟨by decide +kernel, rfl⟩) ?_
      refine J_getI (show Dc Y_X5_release 44 (.getfield 29) 3 47 from ⟨by decide +kernel, rfl⟩) w_f_RX5_29 rfl (fun v9 => ?_)
      refine J_iald (show Dc Y_X5_release 47 (.iaload) 1 48 from ⟨by decide +kernel, rfl⟩) (fun v10 => ?_)
      refine J_iadd (show Dc Y_X5_release 48 (.iadd) 1 49 from ⟨by decide +kernel, rfl⟩) ?_
      refine J_callVv (fun r => r) (show Dc Y_X5_release 49 (.invokevirtual 72) 3 52 from ⟨by decide +kernel, rfl⟩) w_m_RX5_72 w_in_X5_emit rfl w_se_X5_emit w_cw_X5_emit (c_X5_emit x0 ((2000 : Int32) + v10) g7) rfl rfl (by decide) (Nat.le_of_ble_eq_true rfl) (by decide) (by decide) (fun g11 => ?_)
      refine J_goto (tg := 0) (show Dc Y_X5_release 52 (.goto (-52)) 3 55 from ⟨by decide +kernel, rfl⟩) (by decide) ?_
      exact J_leaf (fun h => hL0 g11 h)

theorem j_X5_release {X : ZX} (N : Nat) (x0 : Nat) (x1 : Int32) (g : ZS) {K : ZS → Prop} (h0 : ∀ g, K g → xK X none g) : J Y_X5_release X 0 0 0 [some (.ref x0), some (.int x1)] [] g (f_X5_release N x0 x1 g) K := by
  unfold f_X5_release
  exact J_loop (X := X) (K := K) (uc := fun _ => 0) (us := fun _ => 0) (lf := fun s => [some (.ref x0), some (.int x1)]) (gf := fun s => s) (fun s => j_X5_release_0b (K := zKl Y_X5_release X 0 (fun _ => 0) (fun _ => 0) (fun s => [some (.ref x0), some (.int x1)]) (fun s => s) K) N x0 x1 s h0 (fun s h => h)) N g

theorem c_X5_release {l : Launch} {D : ZD} {B0 : Nat} (N : Nat) (x0 : Nat) (x1 : Int32) (g : ZS) : ∀ r, f_X5_release N x0 x1 g = some r → zCt l D B0 yX5_release Y_X5_release [.ref x0, .int x1] g none r :=
  zCt_ofF (vo := fun _ => none) (so := fun r => r) (by decide +kernel) rfl (fun h => by cases h) rfl (Nat.le_of_ble_eq_true rfl) (fun X => j_X5_release N x0 x1 g (fun _ h => h))

theorem j_X5_close_31 {X : ZX} (N : Nat) (x0 : Nat)   (g : ZS) {K : (Int32 × ZS) → Prop} (h0 : ∀ v g, K (v, g) → xK X (some (.int v)) g) : J Y_X5_close X 0 0 31 [some (.ref x0)] [] g (f_X5_close_31 N x0 g) K := by
  unfold f_X5_close_31
  refine J_aload_n rfl rfl (show Dc Y_X5_close 31 (.aload_n 0) 1 32 from ⟨by decide +kernel, rfl⟩) ?_
  refine J_dup rfl (show Dc Y_X5_close 32 (.dup) 1 33 from ⟨by decide +kernel, rfl⟩) ?_
  refine J_getI (show Dc Y_X5_close 33 (.getfield 32) 3 36 from ⟨by decide +kernel, rfl⟩) w_f_RX5_32 rfl (fun v1 => ?_)
  refine J_iconst (1 : Int32) rfl (show Dc Y_X5_close 36 (.iconst 1) 1 37 from ⟨by decide +kernel, rfl⟩) ?_
  refine J_isub (show Dc Y_X5_close 37 (.isub) 1 38 from ⟨by decide +kernel, rfl⟩) ?_
  refine J_putI (show Dc Y_X5_close 38 (.putfield 32) 3 41 from ⟨by decide +kernel, rfl⟩) w_f_RX5_32 rfl rfl (fun g2 => ?_) (fun h => by cases h)
  refine J_aload_n rfl rfl (show Dc Y_X5_close 41 (.aload_n 0) 1 42 from ⟨by decide +kernel, rfl⟩) ?_
  refine J_iconst (0 : Int32) rfl (show Dc Y_X5_close 42 (.iconst 0) 1 43 from ⟨by decide +kernel, rfl⟩) ?_
  refine J_putI (show Dc Y_X5_close 43 (.putfield 75) 3 46 from ⟨by decide +kernel, rfl⟩) w_f_RX5_75 rfl rfl (fun g3 => ?_) (fun h => by cases h)
  refine J_iconst (1 : Int32) rfl (show Dc Y_X5_close 46 (.iconst 1) 1 47 from ⟨by decide +kernel, rfl⟩) ?_
  exact J_retz rfl (show Dc Y_X5_close 47 (.ireturn) 1 48 from ⟨by decide +kernel, rfl⟩) rfl (h0 _ _) (by decide) (by decide)

theorem j_X5_close {X : ZX} (N : Nat) (x0 : Nat)   (g : ZS) {K : (Int32 × ZS) → Prop} (h0 : ∀ v g, K (v, g) → xK X (some (.int v)) g) : J Y_X5_close X 0 0 0 [some (.ref x0)] [] g (f_X5_close N x0 g) K := by
  unfold f_X5_close
  refine J_aload_n rfl rfl (show Dc Y_X5_close 0 (.aload_n 0) 1 1 from ⟨by decide +kernel, rfl⟩) ?_
  refine J_getI (show Dc Y_X5_close 1 (.getfield 32) 3 4 from ⟨by decide +kernel, rfl⟩) w_f_RX5_32 rfl (fun v1 => ?_)
  refine J_if_gt (tg := 9) (show Dc Y_X5_close 4 (.ifCond .gt 5) 3 7 from ⟨by decide +kernel, rfl⟩) (by decide) (fun h => ?_) (fun h => ?_)
  · refine J_aload_n rfl rfl (show Dc Y_X5_close 9 (.aload_n 0) 1 10 from ⟨by decide +kernel, rfl⟩) ?_
    refine J_iconst (1 : Int32) rfl (show Dc Y_X5_close 10 (.iconst 1) 1 11 from ⟨by decide +kernel, rfl⟩) ?_
    refine J_callVv (fun r => r) (show Dc Y_X5_close 11 (.invokevirtual 53) 3 14 from ⟨by decide +kernel, rfl⟩) w_m_RX5_53 w_in_X5_release rfl w_se_X5_release w_cw_X5_release (c_X5_release N x0 (1 : Int32) g) rfl rfl (by decide) (Nat.le_of_ble_eq_true rfl) (by decide) (by decide) (fun g2 => ?_)
    refine J_aload_n rfl rfl (show Dc Y_X5_close 14 (.aload_n 0) 1 15 from ⟨by decide +kernel, rfl⟩) ?_
    refine J_getI (show Dc Y_X5_close 15 (.getfield 29) 3 18 from ⟨by decide +kernel, rfl⟩) w_f_RX5_29 rfl (fun v3 => ?_)
    refine J_if_le (tg := 31) (show Dc Y_X5_close 18 (.ifCond .le 13) 3 21 from ⟨by decide +kernel, rfl⟩) (by decide) (fun h => ?_) (fun h => ?_)
    · exact j_X5_close_31 N x0 g2 h0
    · refine J_aload_n rfl rfl (show Dc Y_X5_close 21 (.aload_n 0) 1 22 from ⟨by decide +kernel, rfl⟩) ?_
      refine J_dup rfl (show Dc Y_X5_close 22 (.dup) 1 23 from ⟨by decide +kernel, rfl⟩) ?_
      refine J_getI (show Dc Y_X5_close 23 (.getfield 29) 3 26 from ⟨by decide +kernel, rfl⟩) w_f_RX5_29 rfl (fun v4 => ?_)
      refine J_iconst (1 : Int32) rfl (show Dc Y_X5_close 26 (.iconst 1) 1 27 from ⟨by decide +kernel, rfl⟩) ?_
      refine J_isub (show Dc Y_X5_close 27 (.isub) 1 28 from ⟨by decide +kernel, rfl⟩) ?_
      refine J_putI (show Dc Y_X5_close 28 (.putfield 29) 3 31 from ⟨by decide +kernel, rfl⟩) w_f_RX5_29 rfl rfl (fun g5 => ?_) (fun h => by cases h)
      exact j_X5_close_31 N x0 g5 h0
  · refine J_iconst (0 : Int32) rfl (show Dc Y_X5_close 7 (.iconst 0) 1 8 from ⟨by decide +kernel, rfl⟩) ?_
    exact J_retz rfl (show Dc Y_X5_close 8 (.ireturn) 1 9 from ⟨by decide +kernel, rfl⟩) rfl (h0 _ _) (by decide) (by decide)

theorem c_X5_close {l : Launch} {D : ZD} {B0 : Nat} (N : Nat) (x0 : Nat) (g : ZS) : ∀ r, f_X5_close N x0 g = some r → zCt l D B0 yX5_close Y_X5_close [.ref x0] g (some (.int r.1)) r.2 :=
  zCt_ofF (vo := fun r => some (.int r.1)) (so := fun r => r.2) (by decide +kernel) rfl (fun h => by cases h) rfl (Nat.le_of_ble_eq_true rfl) (fun X => j_X5_close N x0 g (fun _ _ h => h))

theorem j_X5_push_29 {X : ZX}    (g : ZS) {K : ZS → Prop} (h0 : ∀ g, K g → xK X none g) : J Y_X5_push X 0 0 29 [none, none] [] g (f_X5_push_29 g) K := by
  unfold f_X5_push_29
  exact J_ret0 (show Dc Y_X5_push 29 (.return_) 1 30 from ⟨by decide +kernel, rfl⟩) rfl (h0 _) (by decide) (by decide)

theorem j_X5_push {X : ZX} (x0 : Nat) (x1 : Int32)   (g : ZS) {K : ZS → Prop} (h0 : ∀ g, K g → xK X none g) : J Y_X5_push X 0 0 0 [some (.ref x0), some (.int x1)] [] g (f_X5_push x0 x1 g) K := by
  unfold f_X5_push
  refine J_aload_n rfl rfl (show Dc Y_X5_push 0 (.aload_n 0) 1 1 from ⟨by decide +kernel, rfl⟩) ?_
  refine J_getI (show Dc Y_X5_push 1 (.getfield 29) 3 4 from ⟨by decide +kernel, rfl⟩) w_f_RX5_29 rfl (fun v1 => ?_)
  refine J_bipush (40 : Int32) rfl (show Dc Y_X5_push 4 (.bipush 40) 2 6 from ⟨by decide +kernel, rfl⟩) ?_
  refine J_icmp_ge (tg := 29) (show Dc Y_X5_push 6 (.if_icmp .ge 23) 3 9 from ⟨by decide +kernel, rfl⟩) (by decide) (fun h => ?_) (fun h => ?_)
  · refine J_mask [false, false] ?_
    exact j_X5_push_29 g h0
  · refine J_aload_n rfl rfl (show Dc Y_X5_push 9 (.aload_n 0) 1 10 from ⟨by decide +kernel, rfl⟩) ?_
    refine J_getR (show Dc Y_X5_push 10 (.getfield 18) 3 13 from ⟨by decide +kernel, rfl⟩) w_f_RX5_18 rfl (fun v2 => ?_)
    refine J_aload_n rfl rfl (show Dc Y_X5_push 13 (.aload_n 0) 1 14 from ⟨by decide +kernel, rfl⟩) ?_
    refine J_getI (show Dc Y_X5_push 14 (.getfield 29) 3 17 from ⟨by decide +kernel, rfl⟩) w_f_RX5_29 rfl (fun v3 => ?_)
    refine J_iload_n rfl rfl (show Dc Y_X5_push 17 (.iload_n 1) 1 18 from ⟨by decide +kernel, rfl⟩) ?_
    refine J_iast (show Dc Y_X5_push 18 (.iastore) 1 19 from ⟨by decide +kernel, rfl⟩) (fun g4 => ?_)
    refine J_aload_n rfl rfl (show Dc Y_X5_push 19 (.aload_n 0) 1 20 from ⟨by decide +kernel, rfl⟩) ?_
    refine J_dup rfl (show Dc Y_X5_push 20 (.dup) 1 21 from ⟨by decide +kernel, rfl⟩) ?_
    refine J_getI (show Dc Y_X5_push 21 (.getfield 29) 3 24 from ⟨by decide +kernel, rfl⟩) w_f_RX5_29 rfl (fun v5 => ?_)
    refine J_iconst (1 : Int32) rfl (show Dc Y_X5_push 24 (.iconst 1) 1 25 from ⟨by decide +kernel, rfl⟩) ?_
    refine J_iadd (show Dc Y_X5_push 25 (.iadd) 1 26 from ⟨by decide +kernel, rfl⟩) ?_
    refine J_putI (show Dc Y_X5_push 26 (.putfield 29) 3 29 from ⟨by decide +kernel, rfl⟩) w_f_RX5_29 rfl rfl (fun g6 => ?_) (fun h => by cases h)
    refine J_mask [false, false] ?_
    exact j_X5_push_29 g6 h0

theorem c_X5_push {l : Launch} {D : ZD} {B0 : Nat} (x0 : Nat) (x1 : Int32) (g : ZS) : ∀ r, f_X5_push x0 x1 g = some r → zCt l D B0 yX5_push Y_X5_push [.ref x0, .int x1] g none r :=
  zCt_ofF (vo := fun _ => none) (so := fun r => r) (by decide +kernel) rfl (fun h => by cases h) rfl (Nat.le_of_ble_eq_true rfl) (fun X => j_X5_push x0 x1 g (fun _ h => h))

theorem j_X5_goOn_58 {X : ZX} (N : Nat)    (g : ZS) {K : (Int32 × ZS) → Prop} (h0 : ∀ v g, K (v, g) → xK X (some (.int v)) g) : J Y_X5_goOn X 0 0 58 [none, none, none] [] g (f_X5_goOn_58 N g) K := by
  unfold f_X5_goOn_58
  refine J_iconst (0 : Int32) rfl (show Dc Y_X5_goOn 58 (.iconst 0) 1 59 from ⟨by decide +kernel, rfl⟩) ?_
  exact J_retz rfl (show Dc Y_X5_goOn 59 (.ireturn) 1 60 from ⟨by decide +kernel, rfl⟩) rfl (h0 _ _) (by decide) (by decide)

theorem j_X5_goOn_75 {X : ZX} (N : Nat) (x0 : Nat) (x1 : Int32) (x2 : Int32)   (g : ZS) {K : (Int32 × ZS) → Prop} (h0 : ∀ v g, K (v, g) → xK X (some (.int v)) g) : J Y_X5_goOn X 0 0 75 [some (.ref x0), some (.int x1), some (.int x2)] [] g (f_X5_goOn_75 N x0 x1 x2 g) K := by
  unfold f_X5_goOn_75
  refine J_aload_n rfl rfl (show Dc Y_X5_goOn 75 (.aload_n 0) 1 76 from ⟨by decide +kernel, rfl⟩) ?_
  refine J_iload_n rfl rfl (show Dc Y_X5_goOn 76 (.iload_n 2) 1 77 from ⟨by decide +kernel, rfl⟩) ?_
  refine J_callVv (fun r => r) (show Dc Y_X5_goOn 77 (.invokevirtual 53) 3 80 from ⟨by decide +kernel, rfl⟩) w_m_RX5_53 w_in_X5_release rfl w_se_X5_release w_cw_X5_release (c_X5_release N x0 x2 g) rfl rfl (by decide) (Nat.le_of_ble_eq_true rfl) (by decide) (by decide) (fun g1 => ?_)
  refine J_aload_n rfl rfl (show Dc Y_X5_goOn 80 (.aload_n 0) 1 81 from ⟨by decide +kernel, rfl⟩) ?_
  refine J_iload_n rfl rfl (show Dc Y_X5_goOn 81 (.iload_n 1) 1 82 from ⟨by decide +kernel, rfl⟩) ?_
  refine J_callVv (fun r => r) (show Dc Y_X5_goOn 82 (.invokevirtual 57) 3 85 from ⟨by decide +kernel, rfl⟩) w_m_RX5_57 w_in_X5_push rfl w_se_X5_push w_cw_X5_push (c_X5_push x0 x1 g1) rfl rfl (by decide) (Nat.le_of_ble_eq_true rfl) (by decide) (by decide) (fun g2 => ?_)
  refine J_aload_n rfl rfl (show Dc Y_X5_goOn 85 (.aload_n 0) 1 86 from ⟨by decide +kernel, rfl⟩) ?_
  refine J_iconst (0 : Int32) rfl (show Dc Y_X5_goOn 86 (.iconst 0) 1 87 from ⟨by decide +kernel, rfl⟩) ?_
  refine J_putZ (show Dc Y_X5_goOn 87 (.putfield 35) 3 90 from ⟨by decide +kernel, rfl⟩) w_f_RX5_35 rfl rfl (fun g3 => ?_) (fun h => by cases h)
  refine J_iconst (1 : Int32) rfl (show Dc Y_X5_goOn 90 (.iconst 1) 1 91 from ⟨by decide +kernel, rfl⟩) ?_
  exact J_retz rfl (show Dc Y_X5_goOn 91 (.ireturn) 1 92 from ⟨by decide +kernel, rfl⟩) rfl (h0 _ _) (by decide) (by decide)

theorem j_X5_goOn_60 {X : ZX} (N : Nat) (x0 : Nat) (x1 : Int32) (x2 : Int32)   (g : ZS) {K : (Int32 × ZS) → Prop} (h0 : ∀ v g, K (v, g) → xK X (some (.int v)) g) : J Y_X5_goOn X 0 0 60 [some (.ref x0), some (.int x1), some (.int x2)] [] g (f_X5_goOn_60 N x0 x1 x2 g) K := by
  unfold f_X5_goOn_60
  refine J_iload_n rfl rfl (show Dc Y_X5_goOn 60 (.iload_n 2) 1 61 from ⟨by decide +kernel, rfl⟩) ?_
  refine J_iconst (1 : Int32) rfl (show Dc Y_X5_goOn 61 (.iconst 1) 1 62 from ⟨by decide +kernel, rfl⟩) ?_
  refine J_icmp_ne (tg := 75) (show Dc Y_X5_goOn 62 (.if_icmp .ne 13) 3 65 from ⟨by decide +kernel, rfl⟩) (by decide) (fun h => ?_) (fun h => ?_)
  · exact j_X5_goOn_75 N x0 x1 x2 g h0
  · refine J_aload_n rfl rfl (show Dc Y_X5_goOn 65 (.aload_n 0) 1 66 from ⟨by decide +kernel, rfl⟩) ?_
    refine J_getR (show Dc Y_X5_goOn 66 (.getfield 21) 3 69 from ⟨by decide +kernel, rfl⟩) w_f_RX5_21 rfl (fun v1 => ?_)
    refine J_aload_n rfl rfl (show Dc Y_X5_goOn 69 (.aload_n 0) 1 70 from ⟨by decide +kernel, rfl⟩) ?_
    refine J_getI (show Dc Y_X5_goOn 70 (.getfield 32) 3 73 from ⟨by decide +kernel, rfl⟩) w_f_RX5_32 rfl (fun v2 => ?_)
    refine J_iconst (1 : Int32) rfl (show Dc Y_X5_goOn 73 (.iconst 1) 1 74 from ⟨by decide +kernel, rfl⟩) ?_
    refine J_zast (show Dc Y_X5_goOn 74 (.bastore) 1 75 from ⟨by decide +kernel, rfl⟩) (fun g3 => ?_)
    exact j_X5_goOn_75 N x0 x1 x2 g3 h0

theorem j_X5_goOn_21 {X : ZX} (N : Nat) (x0 : Nat) (x1 : Int32)   (g : ZS) {K : (Int32 × ZS) → Prop} (h0 : ∀ v g, K (v, g) → xK X (some (.int v)) g) : J Y_X5_goOn X 0 0 21 [some (.ref x0), some (.int x1), none] [] g (f_X5_goOn_21 N x0 x1 g) K := by
  unfold f_X5_goOn_21
  refine J_iload_n rfl rfl (show Dc Y_X5_goOn 21 (.iload_n 1) 1 22 from ⟨by decide +kernel, rfl⟩) ?_
  refine J_bipush (41 : Int32) rfl (show Dc Y_X5_goOn 22 (.bipush 41) 2 24 from ⟨by decide +kernel, rfl⟩) ?_
  refine J_icmp_ne (tg := 32) (show Dc Y_X5_goOn 24 (.if_icmp .ne 8) 3 27 from ⟨by decide +kernel, rfl⟩) (by decide) (fun h => ?_) (fun h => ?_)
  · refine J_iload_n rfl rfl (show Dc Y_X5_goOn 32 (.iload_n 1) 1 33 from ⟨by decide +kernel, rfl⟩) ?_
    refine J_callSi (fun r => r) (fun _ => g) (show Dc Y_X5_goOn 33 (.invokestatic 85) 3 36 from ⟨by decide +kernel, rfl⟩) w_m_RX5_85 w_st_X5_rankOf w_cw_X5_rankOf (c_X5_rankOf x1 g) rfl rfl (by decide) (Nat.le_of_ble_eq_true rfl) (by decide) (by decide) (fun v1 => ?_)
    refine J_istore_n [some (.ref x0), some (.int x1), some (.int v1)] (show Dc Y_X5_goOn 36 (.istore_n 2) 1 37 from ⟨by decide +kernel, rfl⟩) rfl (by decide) rfl rfl ?_
    refine J_iload_n rfl rfl (show Dc Y_X5_goOn 37 (.iload_n 2) 1 38 from ⟨by decide +kernel, rfl⟩) ?_
    refine J_if_eq (tg := 58) (show Dc Y_X5_goOn 38 (.ifCond .eq 20) 3 41 from ⟨by decide +kernel, rfl⟩) (by decide) (fun h => ?_) (fun h => ?_)
    · refine J_mask [false, false, false] ?_
      exact j_X5_goOn_58 N g h0
    · refine J_iload_n rfl rfl (show Dc Y_X5_goOn 41 (.iload_n 2) 1 42 from ⟨by decide +kernel, rfl⟩) ?_
      refine J_iconst (1 : Int32) rfl (show Dc Y_X5_goOn 42 (.iconst 1) 1 43 from ⟨by decide +kernel, rfl⟩) ?_
      refine J_icmp_ne (tg := 60) (show Dc Y_X5_goOn 43 (.if_icmp .ne 17) 3 46 from ⟨by decide +kernel, rfl⟩) (by decide) (fun h => ?_) (fun h => ?_)
      · exact j_X5_goOn_60 N x0 x1 v1 g h0
      · refine J_aload_n rfl rfl (show Dc Y_X5_goOn 46 (.aload_n 0) 1 47 from ⟨by decide +kernel, rfl⟩) ?_
        refine J_getR (show Dc Y_X5_goOn 47 (.getfield 21) 3 50 from ⟨by decide +kernel, rfl⟩) w_f_RX5_21 rfl (fun v2 => ?_)
        refine J_aload_n rfl rfl (show Dc Y_X5_goOn 50 (.aload_n 0) 1 51 from ⟨by decide +kernel, rfl⟩) ?_
        refine J_getI (show Dc Y_X5_goOn 51 (.getfield 32) 3 54 from ⟨by decide +kernel, rfl⟩) w_f_RX5_32 rfl (fun v3 => ?_)
        refine J_zald (show Dc Y_X5_goOn 54 (.baload) 1 55 from ⟨by decide +kernel, rfl⟩) (fun v4 => ?_)
        refine J_if_eq (tg := 60) (show Dc Y_X5_goOn 55 (.ifCond .eq 5) 3 58 from ⟨by decide +kernel, rfl⟩) (by decide) (fun h => ?_) (fun h => ?_)
        · exact j_X5_goOn_60 N x0 x1 v1 g h0
        · refine J_mask [false, false, false] ?_
          exact j_X5_goOn_58 N g h0
  · refine J_aload_n rfl rfl (show Dc Y_X5_goOn 27 (.aload_n 0) 1 28 from ⟨by decide +kernel, rfl⟩) ?_
    refine J_callVi (fun r => r.1) (fun r => r.2) (show Dc Y_X5_goOn 28 (.invokevirtual 82) 3 31 from ⟨by decide +kernel, rfl⟩) w_m_RX5_82 w_in_X5_close rfl w_se_X5_close w_cw_X5_close (c_X5_close N x0 g) rfl rfl (by decide) (Nat.le_of_ble_eq_true rfl) (by decide) (by decide) (fun r5 => ?_)
    exact J_retZ (show Dc Y_X5_goOn 31 (.ireturn) 1 32 from ⟨by decide +kernel, rfl⟩) rfl (h0 _ _) (by decide) (by decide)

theorem j_X5_goOn {X : ZX} (N : Nat) (x0 : Nat) (x1 : Int32)   (g : ZS) {K : (Int32 × ZS) → Prop} (h0 : ∀ v g, K (v, g) → xK X (some (.int v)) g) : J Y_X5_goOn X 0 0 0 [some (.ref x0), some (.int x1), none] [] g (f_X5_goOn N x0 x1 g) K := by
  unfold f_X5_goOn
  refine J_iload_n rfl rfl (show Dc Y_X5_goOn 0 (.iload_n 1) 1 1 from ⟨by decide +kernel, rfl⟩) ?_
  refine J_bipush (48 : Int32) rfl (show Dc Y_X5_goOn 1 (.bipush 48) 2 3 from ⟨by decide +kernel, rfl⟩) ?_
  refine J_icmp_lt (tg := 21) (show Dc Y_X5_goOn 3 (.if_icmp .lt 18) 3 6 from ⟨by decide +kernel, rfl⟩) (by decide) (fun h => ?_) (fun h => ?_)
  · exact j_X5_goOn_21 N x0 x1 g h0
  · refine J_iload_n rfl rfl (show Dc Y_X5_goOn 6 (.iload_n 1) 1 7 from ⟨by decide +kernel, rfl⟩) ?_
    refine J_bipush (57 : Int32) rfl (show Dc Y_X5_goOn 7 (.bipush 57) 2 9 from ⟨by decide +kernel, rfl⟩) ?_
    refine J_icmp_gt (tg := 21) (show Dc Y_X5_goOn 9 (.if_icmp .gt 12) 3 12 from ⟨by decide +kernel, rfl⟩) (by decide) (fun h => ?_) (fun h => ?_)
    · exact j_X5_goOn_21 N x0 x1 g h0
    · refine J_aload_n rfl rfl (show Dc Y_X5_goOn 12 (.aload_n 0) 1 13 from ⟨by decide +kernel, rfl⟩) ?_
      refine J_iload_n rfl rfl (show Dc Y_X5_goOn 13 (.iload_n 1) 1 14 from ⟨by decide +kernel, rfl⟩) ?_
      refine J_bipush (48 : Int32) rfl (show Dc Y_X5_goOn 14 (.bipush 48) 2 16 from ⟨by decide +kernel, rfl⟩) ?_
      refine J_isub (show Dc Y_X5_goOn 16 (.isub) 1 17 from ⟨by decide +kernel, rfl⟩) ?_
      refine J_callVi (fun r => r.1) (fun r => r.2) (show Dc Y_X5_goOn 17 (.invokevirtual 78) 3 20 from ⟨by decide +kernel, rfl⟩) w_m_RX5_78 w_in_X5_lengthen rfl w_se_X5_lengthen w_cw_X5_lengthen (c_X5_lengthen x0 (x1 - (48 : Int32)) g) rfl rfl (by decide) (Nat.le_of_ble_eq_true rfl) (by decide) (by decide) (fun r1 => ?_)
      exact J_retZ (show Dc Y_X5_goOn 20 (.ireturn) 1 21 from ⟨by decide +kernel, rfl⟩) rfl (h0 _ _) (by decide) (by decide)

theorem c_X5_goOn {l : Launch} {D : ZD} {B0 : Nat} (N : Nat) (x0 : Nat) (x1 : Int32) (g : ZS) : ∀ r, f_X5_goOn N x0 x1 g = some r → zCt l D B0 yX5_goOn Y_X5_goOn [.ref x0, .int x1] g (some (.int r.1)) r.2 :=
  zCt_ofF (vo := fun r => some (.int r.1)) (so := fun r => r.2) (by decide +kernel) rfl (fun h => by cases h) rfl (Nat.le_of_ble_eq_true rfl) (fun X => j_X5_goOn N x0 x1 g (fun _ _ h => h))

theorem j_X5_open {X : ZX} (x0 : Nat)   (g : ZS) {K : (Int32 × ZS) → Prop} (h0 : ∀ v g, K (v, g) → xK X (some (.int v)) g) : J Y_X5_open X 0 0 0 [some (.ref x0)] [] g (f_X5_open x0 g) K := by
  unfold f_X5_open
  refine J_aload_n rfl rfl (show Dc Y_X5_open 0 (.aload_n 0) 1 1 from ⟨by decide +kernel, rfl⟩) ?_
  refine J_getI (show Dc Y_X5_open 1 (.getfield 32) 3 4 from ⟨by decide +kernel, rfl⟩) w_f_RX5_32 rfl (fun v1 => ?_)
  refine J_iconst (4 : Int32) rfl (show Dc Y_X5_open 4 (.iconst 4) 1 5 from ⟨by decide +kernel, rfl⟩) ?_
  refine J_icmp_lt (tg := 10) (show Dc Y_X5_open 5 (.if_icmp .lt 5) 3 8 from ⟨by decide +kernel, rfl⟩) (by decide) (fun h => ?_) (fun h => ?_)
  · refine J_aload_n rfl rfl (show Dc Y_X5_open 10 (.aload_n 0) 1 11 from ⟨by decide +kernel, rfl⟩) ?_
    refine J_dup rfl (show Dc Y_X5_open 11 (.dup) 1 12 from ⟨by decide +kernel, rfl⟩) ?_
    refine J_getI (show Dc Y_X5_open 12 (.getfield 32) 3 15 from ⟨by decide +kernel, rfl⟩) w_f_RX5_32 rfl (fun v2 => ?_)
    refine J_iconst (1 : Int32) rfl (show Dc Y_X5_open 15 (.iconst 1) 1 16 from ⟨by decide +kernel, rfl⟩) ?_
    refine J_iadd (show Dc Y_X5_open 16 (.iadd) 1 17 from ⟨by decide +kernel, rfl⟩) ?_
    refine J_putI (show Dc Y_X5_open 17 (.putfield 32) 3 20 from ⟨by decide +kernel, rfl⟩) w_f_RX5_32 rfl rfl (fun g3 => ?_) (fun h => by cases h)
    refine J_aload_n rfl rfl (show Dc Y_X5_open 20 (.aload_n 0) 1 21 from ⟨by decide +kernel, rfl⟩) ?_
    refine J_getR (show Dc Y_X5_open 21 (.getfield 21) 3 24 from ⟨by decide +kernel, rfl⟩) w_f_RX5_21 rfl (fun v4 => ?_)
    refine J_aload_n rfl rfl (show Dc Y_X5_open 24 (.aload_n 0) 1 25 from ⟨by decide +kernel, rfl⟩) ?_
    refine J_getI (show Dc Y_X5_open 25 (.getfield 32) 3 28 from ⟨by decide +kernel, rfl⟩) w_f_RX5_32 rfl (fun v5 => ?_)
    refine J_iconst (0 : Int32) rfl (show Dc Y_X5_open 28 (.iconst 0) 1 29 from ⟨by decide +kernel, rfl⟩) ?_
    refine J_zast (show Dc Y_X5_open 29 (.bastore) 1 30 from ⟨by decide +kernel, rfl⟩) (fun g6 => ?_)
    refine J_aload_n rfl rfl (show Dc Y_X5_open 30 (.aload_n 0) 1 31 from ⟨by decide +kernel, rfl⟩) ?_
    refine J_bipush (40 : Int32) rfl (show Dc Y_X5_open 31 (.bipush 40) 2 33 from ⟨by decide +kernel, rfl⟩) ?_
    refine J_callVv (fun r => r) (show Dc Y_X5_open 33 (.invokevirtual 57) 3 36 from ⟨by decide +kernel, rfl⟩) w_m_RX5_57 w_in_X5_push rfl w_se_X5_push w_cw_X5_push (c_X5_push x0 (40 : Int32) g6) rfl rfl (by decide) (Nat.le_of_ble_eq_true rfl) (by decide) (by decide) (fun g7 => ?_)
    refine J_iconst (1 : Int32) rfl (show Dc Y_X5_open 36 (.iconst 1) 1 37 from ⟨by decide +kernel, rfl⟩) ?_
    exact J_retz rfl (show Dc Y_X5_open 37 (.ireturn) 1 38 from ⟨by decide +kernel, rfl⟩) rfl (h0 _ _) (by decide) (by decide)
  · refine J_iconst (0 : Int32) rfl (show Dc Y_X5_open 8 (.iconst 0) 1 9 from ⟨by decide +kernel, rfl⟩) ?_
    exact J_retz rfl (show Dc Y_X5_open 9 (.ireturn) 1 10 from ⟨by decide +kernel, rfl⟩) rfl (h0 _ _) (by decide) (by decide)

theorem c_X5_open {l : Launch} {D : ZD} {B0 : Nat} (x0 : Nat) (g : ZS) : ∀ r, f_X5_open x0 g = some r → zCt l D B0 yX5_open Y_X5_open [.ref x0] g (some (.int r.1)) r.2 :=
  zCt_ofF (vo := fun r => some (.int r.1)) (so := fun r => r.2) (by decide +kernel) rfl (fun h => by cases h) rfl (Nat.le_of_ble_eq_true rfl) (fun X => j_X5_open x0 g (fun _ _ h => h))

theorem j_X12_need_16 {X : ZX}    (g : ZS) {K : ZS → Prop} (h0 : ∀ g, K g → xK X none g) : J Y_X12_need X 0 0 16 [none, none] [] g (f_X12_need_16 g) K := by
  unfold f_X12_need_16
  exact J_ret0 (show Dc Y_X12_need 16 (.return_) 1 17 from ⟨by decide +kernel, rfl⟩) rfl (h0 _) (by decide) (by decide)

theorem j_X12_need {X : ZX} (x0 : Nat) (x1 : Int32)   (g : ZS) {K : ZS → Prop} (h0 : ∀ g, K g → xK X none g) : J Y_X12_need X 0 0 0 [some (.ref x0), some (.int x1)] [] g (f_X12_need x0 x1 g) K := by
  unfold f_X12_need
  refine J_aload_n rfl rfl (show Dc Y_X12_need 0 (.aload_n 0) 1 1 from ⟨by decide +kernel, rfl⟩) ?_
  refine J_iload_n rfl rfl (show Dc Y_X12_need 1 (.iload_n 1) 1 2 from ⟨by decide +kernel, rfl⟩) ?_
  refine J_callVi (fun r => r.1) (fun r => r.2) (show Dc Y_X12_need 2 (.invokevirtual 153) 3 5 from ⟨by decide +kernel, rfl⟩) w_m_RX12_153 w_in_X12_passes rfl w_se_X12_passes w_cw_X12_passes (c_X12_passes x0 x1 g) rfl rfl (by decide) (Nat.le_of_ble_eq_true rfl) (by decide) (by decide) (fun r1 => ?_)
  refine J_if_ne (tg := 16) (show Dc Y_X12_need 5 (.ifCond .ne 11) 3 8 from ⟨by decide +kernel, rfl⟩) (by decide) (fun h => ?_) (fun h => ?_)
  · refine J_mask [false, false] ?_
    exact j_X12_need_16 r1.2 h0
  · refine J_aload_n rfl rfl (show Dc Y_X12_need 8 (.aload_n 0) 1 9 from ⟨by decide +kernel, rfl⟩) ?_
    refine J_aload_n rfl rfl (show Dc Y_X12_need 9 (.aload_n 0) 1 10 from ⟨by decide +kernel, rfl⟩) ?_
    refine J_getI (show Dc Y_X12_need 10 (.getfield 135) 3 13 from ⟨by decide +kernel, rfl⟩) w_f_RX12_135 rfl (fun v2 => ?_)
    refine J_callVv (fun r => r) (show Dc Y_X12_need 13 (.invokevirtual 157) 3 16 from ⟨by decide +kernel, rfl⟩) w_m_RX12_157 w_in_X12_fault rfl w_se_X12_fault w_cw_X12_fault (c_X12_fault x0 v2 r1.2) rfl rfl (by decide) (Nat.le_of_ble_eq_true rfl) (by decide) (by decide) (fun g3 => ?_)
    refine J_mask [false, false] ?_
    exact j_X12_need_16 g3 h0

theorem c_X12_need {l : Launch} {D : ZD} {B0 : Nat} (x0 : Nat) (x1 : Int32) (g : ZS) : ∀ r, f_X12_need x0 x1 g = some r → zCt l D B0 yX12_need Y_X12_need [.ref x0, .int x1] g none r :=
  zCt_ofF (vo := fun _ => none) (so := fun r => r) (by decide +kernel) rfl (fun h => by cases h) rfl (Nat.le_of_ble_eq_true rfl) (fun X => j_X12_need x0 x1 g (fun _ h => h))

theorem j_X12_number_57 {X : ZX} (N : Nat) (x2 : Int32)   (g : ZS) {K : (Int32 × ZS) → Prop} (h0 : ∀ v g, K (v, g) → xK X (some (.int v)) g) : J Y_X12_number X 0 0 57 [none, none, some (.int x2), none] [] g (f_X12_number_57 N x2 g) K := by
  unfold f_X12_number_57
  refine J_iload_n rfl rfl (show Dc Y_X12_number 57 (.iload_n 2) 1 58 from ⟨by decide +kernel, rfl⟩) ?_
  exact J_reti (show Dc Y_X12_number 58 (.ireturn) 1 59 from ⟨by decide +kernel, rfl⟩) rfl (h0 _ _) (by decide) (by decide)

theorem j_X12_number_11 {X : ZX} (N : Nat) (x0 : Nat) (x1 : Int32) (x2 : Int32) (x3 : Int32)   (g : ZS) {K : ((Int32 × Int32 × ZS) ⊕ (Int32 × ZS)) → Prop} (h0 : ∀ v g, K (.inr (v, g)) → xK X (some (.int v)) g) (hL11 : ∀ s, K (.inl s) → zG Y_X12_number X 0 0 11 [some (.ref x0), some (.int x1), some (.int s.1), some (.int s.2.1)] [] s.2.2) : J Y_X12_number X 0 0 11 [some (.ref x0), some (.int x1), some (.int x2), some (.int x3)] [] g (f_X12_number_11 N x0 x1 x2 x3 g) K := by
  unfold f_X12_number_11
  refine J_iload_n rfl rfl (show Dc Y_X12_number 11 (.iload_n 3) 1 12 from ⟨by decide +kernel, rfl⟩) ?_
  refine J_iload_n rfl rfl (show Dc Y_X12_number 12 (.iload_n 1) 1 13 from ⟨by decide +kernel, rfl⟩) ?_
  refine J_icmp_ge (tg := 57) (show Dc Y_X12_number 13 (.if_icmp .ge 44) 3 16 from ⟨by decide +kernel, rfl⟩) (by decide) (fun h => ?_) (fun h => ?_)
  · refine J_mask [false, false, true, false] ?_
    refine J_map (f := Sum.inr) (fun _ h => h) ?_
    exact j_X12_number_57 (K := fun o => K (.inr o)) N x2 g h0
  · refine J_aload_n rfl rfl (show Dc Y_X12_number 16 (.aload_n 0) 1 17 from ⟨by decide +kernel, rfl⟩) ?_
    refine J_callVi (fun r => r) (fun _ => g) (show Dc Y_X12_number 17 (.invokevirtual 145) 3 20 from ⟨by decide +kernel, rfl⟩) w_m_RX12_145 w_in_X12_fine rfl w_se_X12_fine w_cw_X12_fine (c_X12_fine x0 g) rfl rfl (by decide) (Nat.le_of_ble_eq_true rfl) (by decide) (by decide) (fun v1 => ?_)
    refine J_if_eq (tg := 57) (show Dc Y_X12_number 20 (.ifCond .eq 37) 3 23 from ⟨by decide +kernel, rfl⟩) (by decide) (fun h => ?_) (fun h => ?_)
    · refine J_mask [false, false, true, false] ?_
      refine J_map (f := Sum.inr) (fun _ h => h) ?_
      exact j_X12_number_57 (K := fun o => K (.inr o)) N x2 g h0
    · refine J_aload_n rfl rfl (show Dc Y_X12_number 23 (.aload_n 0) 1 24 from ⟨by decide +kernel, rfl⟩) ?_
      refine J_callVi (fun r => r) (fun _ => g) (show Dc Y_X12_number 24 (.invokevirtual 149) 3 27 from ⟨by decide +kernel, rfl⟩) w_m_RX12_149 w_in_X12_here rfl w_se_X12_here w_cw_X12_here (c_X12_here x0 g) rfl rfl (by decide) (Nat.le_of_ble_eq_true rfl) (by decide) (by decide) (fun v2 => ?_)
      refine J_bipush (48 : Int32) rfl (show Dc Y_X12_number 27 (.bipush 48) 2 29 from ⟨by decide +kernel, rfl⟩) ?_
      refine J_bipush (57 : Int32) rfl (show Dc Y_X12_number 29 (.bipush 57) 2 31 from ⟨by decide +kernel, rfl⟩) ?_
      refine J_callSi (fun r => r) (fun _ => g) (show Dc Y_X12_number 31 (.invokestatic 119) 3 34 from ⟨by decide +kernel, rfl⟩) w_m_RX12_119 w_st_X12_in w_cw_X12_in (c_X12_in v2 (48 : Int32) (57 : Int32) g) rfl rfl (by decide) (Nat.le_of_ble_eq_true rfl) (by decide) (by decide) (fun v3 => ?_)
      refine J_if_eq (tg := 57) (show Dc Y_X12_number 34 (.ifCond .eq 23) 3 37 from ⟨by decide +kernel, rfl⟩) (by decide) (fun h => ?_) (fun h => ?_)
      · refine J_mask [false, false, true, false] ?_
        refine J_map (f := Sum.inr) (fun _ h => h) ?_
        exact j_X12_number_57 (K := fun o => K (.inr o)) N x2 g h0
      · refine J_bipush (10 : Int32) rfl (show Dc Y_X12_number 37 (.bipush 10) 2 39 from ⟨by decide +kernel, rfl⟩) ?_
        refine J_iload_n rfl rfl (show Dc Y_X12_number 39 (.iload_n 2) 1 40 from ⟨by decide +kernel, rfl⟩) ?_
        refine J_imul (show Dc Y_X12_number 40 (.imul) 1 41 from ⟨by decide +kernel, rfl⟩) ?_
        refine J_aload_n rfl rfl (show Dc Y_X12_number 41 (.aload_n 0) 1 42 from ⟨by decide +kernel, rfl⟩) ?_
        refine J_bipush (48 : Int32) rfl (show Dc Y_X12_number 42 (.bipush 48) 2 44 from ⟨by decide +kernel, rfl⟩) ?_
        refine J_bipush (10 : Int32) rfl (show Dc Y_X12_number 44 (.bipush 10) 2 46 from ⟨by decide +kernel, rfl⟩) ?_
        refine J_callVi (fun r => r.1) (fun r => r.2) (show Dc Y_X12_number 46 (.invokevirtual 161) 3 49 from ⟨by decide +kernel, rfl⟩) w_m_RX12_161 w_in_X12_oneOf rfl w_se_X12_oneOf w_cw_X12_oneOf (c_X12_oneOf x0 (48 : Int32) (10 : Int32) g) rfl rfl (by decide) (Nat.le_of_ble_eq_true rfl) (by decide) (by decide) (fun r4 => ?_)
        refine J_iadd (show Dc Y_X12_number 49 (.iadd) 1 50 from ⟨by decide +kernel, rfl⟩) ?_
        refine J_istore_n [some (.ref x0), some (.int x1), some (.int (((10 : Int32) * x2) + r4.1)), some (.int x3)] (show Dc Y_X12_number 50 (.istore_n 2) 1 51 from ⟨by decide +kernel, rfl⟩) rfl (by decide) rfl rfl ?_
        refine J_iinc (1 : Int32) [some (.ref x0), some (.int x1), some (.int (((10 : Int32) * x2) + r4.1)), some (.int (x3 + (1 : Int32)))] (show Dc Y_X12_number 51 (.iinc 3 1) 3 54 from ⟨by decide +kernel, rfl⟩) rfl rfl (by decide) rfl rfl ?_
        refine J_goto (tg := 11) (show Dc Y_X12_number 54 (.goto (-43)) 3 57 from ⟨by decide +kernel, rfl⟩) (by decide) ?_
        exact J_leaf (fun h => hL11 (((10 : Int32) * x2) + r4.1, x3 + (1 : Int32), r4.2) h)

theorem j_X12_number {X : ZX} (N : Nat) (x0 : Nat) (x1 : Int32)   (g : ZS) {K : (Int32 × ZS) → Prop} (h0 : ∀ v g, K (v, g) → xK X (some (.int v)) g) : J Y_X12_number X 0 0 0 [some (.ref x0), some (.int x1), none, none] [] g (f_X12_number N x0 x1 g) K := by
  unfold f_X12_number
  refine J_aload_n rfl rfl (show Dc Y_X12_number 0 (.aload_n 0) 1 1 from ⟨by decide +kernel, rfl⟩) ?_
  refine J_bipush (48 : Int32) rfl (show Dc Y_X12_number 1 (.bipush 48) 2 3 from ⟨by decide +kernel, rfl⟩) ?_
  refine J_bipush (10 : Int32) rfl (show Dc Y_X12_number 3 (.bipush 10) 2 5 from ⟨by decide +kernel, rfl⟩) ?_
  refine J_callVi (fun r => r.1) (fun r => r.2) (show Dc Y_X12_number 5 (.invokevirtual 161) 3 8 from ⟨by decide +kernel, rfl⟩) w_m_RX12_161 w_in_X12_oneOf rfl w_se_X12_oneOf w_cw_X12_oneOf (c_X12_oneOf x0 (48 : Int32) (10 : Int32) g) rfl rfl (by decide) (Nat.le_of_ble_eq_true rfl) (by decide) (by decide) (fun r1 => ?_)
  refine J_istore_n [some (.ref x0), some (.int x1), some (.int r1.1), none] (show Dc Y_X12_number 8 (.istore_n 2) 1 9 from ⟨by decide +kernel, rfl⟩) rfl (by decide) rfl rfl ?_
  refine J_iconst (1 : Int32) rfl (show Dc Y_X12_number 9 (.iconst 1) 1 10 from ⟨by decide +kernel, rfl⟩) ?_
  refine J_istore_n [some (.ref x0), some (.int x1), some (.int r1.1), some (.int (1 : Int32))] (show Dc Y_X12_number 10 (.istore_n 3) 1 11 from ⟨by decide +kernel, rfl⟩) rfl (by decide) rfl rfl ?_
  exact J_loop (X := X) (K := K) (uc := fun _ => 0) (us := fun _ => 0) (lf := fun s => [some (.ref x0), some (.int x1), some (.int s.1), some (.int s.2.1)]) (gf := fun s => s.2.2) (fun s => j_X12_number_11 (K := zKl Y_X12_number X 11 (fun _ => 0) (fun _ => 0) (fun s => [some (.ref x0), some (.int x1), some (.int s.1), some (.int s.2.1)]) (fun s => s.2.2) K) N x0 x1 s.1 s.2.1 s.2.2 h0 (fun s h => h)) N (r1.1, (1 : Int32), r1.2)

theorem c_X12_number {l : Launch} {D : ZD} {B0 : Nat} (N : Nat) (x0 : Nat) (x1 : Int32) (g : ZS) : ∀ r, f_X12_number N x0 x1 g = some r → zCt l D B0 yX12_number Y_X12_number [.ref x0, .int x1] g (some (.int r.1)) r.2 :=
  zCt_ofF (vo := fun r => some (.int r.1)) (so := fun r => r.2) (by decide +kernel) rfl (fun h => by cases h) rfl (Nat.le_of_ble_eq_true rfl) (fun X => j_X12_number N x0 x1 g (fun _ _ h => h))

theorem j_X12_letterOf_72 {X : ZX}  (s0 : Int32)  (g : ZS) {K : Int32 → Prop} (h0 : ∀ v, K v → xK X (some (.int v)) g) : J Y_X12_letterOf X 0 0 72 [none] [.int s0] g (f_X12_letterOf_72 s0) K := by
  unfold f_X12_letterOf_72
  exact J_reti (show Dc Y_X12_letterOf 72 (.ireturn) 1 73 from ⟨by decide +kernel, rfl⟩) rfl (h0 _) (by decide) (by decide)

theorem j_X12_letterOf {X : ZX} (x0 : Int32)   (g : ZS) {K : Int32 → Prop} (h0 : ∀ v, K v → xK X (some (.int v)) g) : J Y_X12_letterOf X 0 0 0 [some (.int x0)] [] g (f_X12_letterOf x0) K := by
  unfold f_X12_letterOf
  refine J_iload_n rfl rfl (show Dc Y_X12_letterOf 0 (.iload_n 0) 1 1 from ⟨by decide +kernel, rfl⟩) ?_
  refine J_bipush (110 : Int32) rfl (show Dc Y_X12_letterOf 1 (.bipush 110) 2 3 from ⟨by decide +kernel, rfl⟩) ?_
  refine J_icmp_ne (tg := 10) (show Dc Y_X12_letterOf 3 (.if_icmp .ne 7) 3 6 from ⟨by decide +kernel, rfl⟩) (by decide) (fun h => ?_) (fun h => ?_)
  · refine J_iload_n rfl rfl (show Dc Y_X12_letterOf 10 (.iload_n 0) 1 11 from ⟨by decide +kernel, rfl⟩) ?_
    refine J_bipush (102 : Int32) rfl (show Dc Y_X12_letterOf 11 (.bipush 102) 2 13 from ⟨by decide +kernel, rfl⟩) ?_
    refine J_icmp_ne (tg := 20) (show Dc Y_X12_letterOf 13 (.if_icmp .ne 7) 3 16 from ⟨by decide +kernel, rfl⟩) (by decide) (fun h => ?_) (fun h => ?_)
    · refine J_iload_n rfl rfl (show Dc Y_X12_letterOf 20 (.iload_n 0) 1 21 from ⟨by decide +kernel, rfl⟩) ?_
      refine J_bipush (108 : Int32) rfl (show Dc Y_X12_letterOf 21 (.bipush 108) 2 23 from ⟨by decide +kernel, rfl⟩) ?_
      refine J_icmp_ne (tg := 30) (show Dc Y_X12_letterOf 23 (.if_icmp .ne 7) 3 26 from ⟨by decide +kernel, rfl⟩) (by decide) (fun h => ?_) (fun h => ?_)
      · refine J_iload_n rfl rfl (show Dc Y_X12_letterOf 30 (.iload_n 0) 1 31 from ⟨by decide +kernel, rfl⟩) ?_
        refine J_bipush (116 : Int32) rfl (show Dc Y_X12_letterOf 31 (.bipush 116) 2 33 from ⟨by decide +kernel, rfl⟩) ?_
        refine J_icmp_ne (tg := 40) (show Dc Y_X12_letterOf 33 (.if_icmp .ne 7) 3 36 from ⟨by decide +kernel, rfl⟩) (by decide) (fun h => ?_) (fun h => ?_)
        · refine J_iload_n rfl rfl (show Dc Y_X12_letterOf 40 (.iload_n 0) 1 41 from ⟨by decide +kernel, rfl⟩) ?_
          refine J_bipush (119 : Int32) rfl (show Dc Y_X12_letterOf 41 (.bipush 119) 2 43 from ⟨by decide +kernel, rfl⟩) ?_
          refine J_icmp_ne (tg := 50) (show Dc Y_X12_letterOf 43 (.if_icmp .ne 7) 3 46 from ⟨by decide +kernel, rfl⟩) (by decide) (fun h => ?_) (fun h => ?_)
          · refine J_iload_n rfl rfl (show Dc Y_X12_letterOf 50 (.iload_n 0) 1 51 from ⟨by decide +kernel, rfl⟩) ?_
            refine J_bipush (104 : Int32) rfl (show Dc Y_X12_letterOf 51 (.bipush 104) 2 53 from ⟨by decide +kernel, rfl⟩) ?_
            refine J_icmp_ne (tg := 60) (show Dc Y_X12_letterOf 53 (.if_icmp .ne 7) 3 56 from ⟨by decide +kernel, rfl⟩) (by decide) (fun h => ?_) (fun h => ?_)
            · refine J_iload_n rfl rfl (show Dc Y_X12_letterOf 60 (.iload_n 0) 1 61 from ⟨by decide +kernel, rfl⟩) ?_
              refine J_bipush (118 : Int32) rfl (show Dc Y_X12_letterOf 61 (.bipush 118) 2 63 from ⟨by decide +kernel, rfl⟩) ?_
              refine J_icmp_ne (tg := 71) (show Dc Y_X12_letterOf 63 (.if_icmp .ne 8) 3 66 from ⟨by decide +kernel, rfl⟩) (by decide) (fun h => ?_) (fun h => ?_)
              · refine J_iconst (-1 : Int32) rfl (show Dc Y_X12_letterOf 71 (.iconst (-1)) 1 72 from ⟨by decide +kernel, rfl⟩) ?_
                refine J_mask [false] ?_
                exact j_X12_letterOf_72 (-1 : Int32) g h0
              · refine J_bipush (6 : Int32) rfl (show Dc Y_X12_letterOf 66 (.bipush 6) 2 68 from ⟨by decide +kernel, rfl⟩) ?_
                refine J_goto (tg := 72) (show Dc Y_X12_letterOf 68 (.goto 4) 3 71 from ⟨by decide +kernel, rfl⟩) (by decide) ?_
                refine J_mask [false] ?_
                exact j_X12_letterOf_72 (6 : Int32) g h0
            · refine J_iconst (5 : Int32) rfl (show Dc Y_X12_letterOf 56 (.iconst 5) 1 57 from ⟨by decide +kernel, rfl⟩) ?_
              refine J_goto (tg := 72) (show Dc Y_X12_letterOf 57 (.goto 15) 3 60 from ⟨by decide +kernel, rfl⟩) (by decide) ?_
              refine J_mask [false] ?_
              exact j_X12_letterOf_72 (5 : Int32) g h0
          · refine J_iconst (4 : Int32) rfl (show Dc Y_X12_letterOf 46 (.iconst 4) 1 47 from ⟨by decide +kernel, rfl⟩) ?_
            refine J_goto (tg := 72) (show Dc Y_X12_letterOf 47 (.goto 25) 3 50 from ⟨by decide +kernel, rfl⟩) (by decide) ?_
            refine J_mask [false] ?_
            exact j_X12_letterOf_72 (4 : Int32) g h0
        · refine J_iconst (3 : Int32) rfl (show Dc Y_X12_letterOf 36 (.iconst 3) 1 37 from ⟨by decide +kernel, rfl⟩) ?_
          refine J_goto (tg := 72) (show Dc Y_X12_letterOf 37 (.goto 35) 3 40 from ⟨by decide +kernel, rfl⟩) (by decide) ?_
          refine J_mask [false] ?_
          exact j_X12_letterOf_72 (3 : Int32) g h0
      · refine J_iconst (2 : Int32) rfl (show Dc Y_X12_letterOf 26 (.iconst 2) 1 27 from ⟨by decide +kernel, rfl⟩) ?_
        refine J_goto (tg := 72) (show Dc Y_X12_letterOf 27 (.goto 45) 3 30 from ⟨by decide +kernel, rfl⟩) (by decide) ?_
        refine J_mask [false] ?_
        exact j_X12_letterOf_72 (2 : Int32) g h0
    · refine J_iconst (1 : Int32) rfl (show Dc Y_X12_letterOf 16 (.iconst 1) 1 17 from ⟨by decide +kernel, rfl⟩) ?_
      refine J_goto (tg := 72) (show Dc Y_X12_letterOf 17 (.goto 55) 3 20 from ⟨by decide +kernel, rfl⟩) (by decide) ?_
      refine J_mask [false] ?_
      exact j_X12_letterOf_72 (1 : Int32) g h0
  · refine J_iconst (0 : Int32) rfl (show Dc Y_X12_letterOf 6 (.iconst 0) 1 7 from ⟨by decide +kernel, rfl⟩) ?_
    refine J_goto (tg := 72) (show Dc Y_X12_letterOf 7 (.goto 65) 3 10 from ⟨by decide +kernel, rfl⟩) (by decide) ?_
    refine J_mask [false] ?_
    exact j_X12_letterOf_72 (0 : Int32) g h0

theorem c_X12_letterOf {l : Launch} {D : ZD} {B0 : Nat} (x0 : Int32) (g : ZS) : ∀ r, f_X12_letterOf x0 = some r → zCt l D B0 yX12_letterOf Y_X12_letterOf [.int x0] g (some (.int r)) g :=
  zCt_ofF (vo := fun r => some (.int r)) (so := fun _ => g) (by decide +kernel) rfl (fun h => by cases h) rfl (Nat.le_of_ble_eq_true rfl) (fun X => j_X12_letterOf x0 g (fun _ h => h))

theorem j_X6_isIn_17 {X : ZX}  (s0 : Int32)  (g : ZS) {K : Int32 → Prop} (h0 : ∀ v, K v → xK X (some (.int v)) g) : J Y_X6_isIn X 0 0 17 [none, none] [.int s0] g (f_X6_isIn_17 s0 g) K := by
  unfold f_X6_isIn_17
  exact J_retZ (show Dc Y_X6_isIn 17 (.ireturn) 1 18 from ⟨by decide +kernel, rfl⟩) rfl (h0 _) (by decide) (by decide)

theorem j_X6_isIn_16 {X : ZX}    (g : ZS) {K : Int32 → Prop} (h0 : ∀ v, K v → xK X (some (.int v)) g) : J Y_X6_isIn X 0 0 16 [none, none] [] g (f_X6_isIn_16 g) K := by
  unfold f_X6_isIn_16
  refine J_iconst (0 : Int32) rfl (show Dc Y_X6_isIn 16 (.iconst 0) 1 17 from ⟨by decide +kernel, rfl⟩) ?_
  exact j_X6_isIn_17 (0 : Int32) g h0

theorem j_X6_isIn {X : ZX} (x0 : Nat) (x1 : Int32)   (g : ZS) {K : Int32 → Prop} (h0 : ∀ v, K v → xK X (some (.int v)) g) : J Y_X6_isIn X 0 0 0 [some (.ref x0), some (.int x1)] [] g (f_X6_isIn x0 x1 g) K := by
  unfold f_X6_isIn
  refine J_iload_n rfl rfl (show Dc Y_X6_isIn 0 (.iload_n 1) 1 1 from ⟨by decide +kernel, rfl⟩) ?_
  refine J_if_lt (tg := 16) (show Dc Y_X6_isIn 1 (.ifCond .lt 15) 3 4 from ⟨by decide +kernel, rfl⟩) (by decide) (fun h => ?_) (fun h => ?_)
  · refine J_mask [false, false] ?_
    exact j_X6_isIn_16 g h0
  · refine J_iload_n rfl rfl (show Dc Y_X6_isIn 4 (.iload_n 1) 1 5 from ⟨by decide +kernel, rfl⟩) ?_
    refine J_aload_n rfl rfl (show Dc Y_X6_isIn 5 (.aload_n 0) 1 6 from ⟨by decide +kernel, rfl⟩) ?_
    refine J_getI (show Dc Y_X6_isIn 6 (.getfield 18) 3 9 from ⟨by decide +kernel, rfl⟩) w_f_RX6_18 rfl (fun v1 => ?_)
    refine J_icmp_ge (tg := 16) (show Dc Y_X6_isIn 9 (.if_icmp .ge 7) 3 12 from ⟨by decide +kernel, rfl⟩) (by decide) (fun h => ?_) (fun h => ?_)
    · refine J_mask [false, false] ?_
      exact j_X6_isIn_16 g h0
    · refine J_iconst (1 : Int32) rfl (show Dc Y_X6_isIn 12 (.iconst 1) 1 13 from ⟨by decide +kernel, rfl⟩) ?_
      refine J_goto (tg := 17) (show Dc Y_X6_isIn 13 (.goto 4) 3 16 from ⟨by decide +kernel, rfl⟩) (by decide) ?_
      refine J_mask [false, false] ?_
      exact j_X6_isIn_17 (1 : Int32) g h0

theorem c_X6_isIn {l : Launch} {D : ZD} {B0 : Nat} (x0 : Nat) (x1 : Int32) (g : ZS) : ∀ r, f_X6_isIn x0 x1 g = some r → zCt l D B0 yX6_isIn Y_X6_isIn [.ref x0, .int x1] g (some (.int r)) g :=
  zCt_ofF (vo := fun r => some (.int r)) (so := fun _ => g) (by decide +kernel) rfl (fun h => by cases h) rfl (Nat.le_of_ble_eq_true rfl) (fun X => j_X6_isIn x0 x1 g (fun _ h => h))

theorem j_X11_isParrot {X : ZX} (x0 : Nat) (x1 : Int32)   (g : ZS) {K : Int32 → Prop} (h0 : ∀ v, K v → xK X (some (.int v)) g) : J Y_X11_isParrot X 0 0 0 [some (.ref x0), some (.int x1)] [] g (f_X11_isParrot x0 x1 g) K := by
  unfold f_X11_isParrot
  refine J_aload_n rfl rfl (show Dc Y_X11_isParrot 0 (.aload_n 0) 1 1 from ⟨by decide +kernel, rfl⟩) ?_
  refine J_getR (show Dc Y_X11_isParrot 1 (.getfield 47) 3 4 from ⟨by decide +kernel, rfl⟩) w_f_RX11_47 rfl (fun v1 => ?_)
  refine J_iload_n rfl rfl (show Dc Y_X11_isParrot 4 (.iload_n 1) 1 5 from ⟨by decide +kernel, rfl⟩) ?_
  refine J_callVi (fun r => r) (fun _ => g) (show Dc Y_X11_isParrot 5 (.invokevirtual 241) 3 8 from ⟨by decide +kernel, rfl⟩) w_m_RX11_241 w_in_X6_isIn rfl w_se_X6_isIn w_cw_X6_isIn (c_X6_isIn v1 x1 g) rfl rfl (by decide) (Nat.le_of_ble_eq_true rfl) (by decide) (by decide) (fun v2 => ?_)
  exact J_retZ (show Dc Y_X11_isParrot 8 (.ireturn) 1 9 from ⟨by decide +kernel, rfl⟩) rfl (h0 _) (by decide) (by decide)

theorem c_X11_isParrot {l : Launch} {D : ZD} {B0 : Nat} (x0 : Nat) (x1 : Int32) (g : ZS) : ∀ r, f_X11_isParrot x0 x1 g = some r → zCt l D B0 yX11_isParrot Y_X11_isParrot [.ref x0, .int x1] g (some (.int r)) g :=
  zCt_ofF (vo := fun r => some (.int r)) (so := fun _ => g) (by decide +kernel) rfl (fun h => by cases h) rfl (Nat.le_of_ble_eq_true rfl) (fun X => j_X11_isParrot x0 x1 g (fun _ h => h))

theorem j_X0_known_27 {X : ZX} (N : Nat) (x0 : Nat) (x2 : Int32) (s0 : Int32) (s1 : Int32)  (g : ZS) {K : ((Int32 × Int32) ⊕ Int32) → Prop} (h0 : ∀ v, K (.inr v) → xK X (some (.int v)) g) (hL4 : ∀ s, K (.inl s) → zG Y_X0_known X 0 0 4 [some (.ref x0), some (.int s.1), some (.int s.2)] [] g) : J Y_X0_known X 0 0 27 [some (.ref x0), none, some (.int x2)] [.int s1, .int s0] g (f_X0_known_27 N x0 x2 s0 s1 g) K := by
  unfold f_X0_known_27
  refine J_ior (show Dc Y_X0_known 27 (.ior) 1 28 from ⟨by decide +kernel, rfl⟩) ?_
  refine J_istore_n [some (.ref x0), some (.int (s0 ||| s1)), some (.int x2)] (show Dc Y_X0_known 28 (.istore_n 1) 1 29 from ⟨by decide +kernel, rfl⟩) rfl (by decide) rfl rfl ?_
  refine J_iinc (1 : Int32) [some (.ref x0), some (.int (s0 ||| s1)), some (.int (x2 + (1 : Int32)))] (show Dc Y_X0_known 29 (.iinc 2 1) 3 32 from ⟨by decide +kernel, rfl⟩) rfl rfl (by decide) rfl rfl ?_
  refine J_goto (tg := 4) (show Dc Y_X0_known 32 (.goto (-28)) 3 35 from ⟨by decide +kernel, rfl⟩) (by decide) ?_
  exact J_leaf (fun h => hL4 (s0 ||| s1, x2 + (1 : Int32)) h)

theorem j_X0_known_4 {X : ZX} (N : Nat) (x0 : Nat) (x1 : Int32) (x2 : Int32)   (g : ZS) {K : ((Int32 × Int32) ⊕ Int32) → Prop} (h0 : ∀ v, K (.inr v) → xK X (some (.int v)) g) (hL4 : ∀ s, K (.inl s) → zG Y_X0_known X 0 0 4 [some (.ref x0), some (.int s.1), some (.int s.2)] [] g) : J Y_X0_known X 0 0 4 [some (.ref x0), some (.int x1), some (.int x2)] [] g (f_X0_known_4 N x0 x1 x2 g) K := by
  unfold f_X0_known_4
  refine J_iload_n rfl rfl (show Dc Y_X0_known 4 (.iload_n 2) 1 5 from ⟨by decide +kernel, rfl⟩) ?_
  refine J_bipush (8 : Int32) rfl (show Dc Y_X0_known 5 (.bipush 8) 2 7 from ⟨by decide +kernel, rfl⟩) ?_
  refine J_icmp_ge (tg := 35) (show Dc Y_X0_known 7 (.if_icmp .ge 28) 3 10 from ⟨by decide +kernel, rfl⟩) (by decide) (fun h => ?_) (fun h => ?_)
  · refine J_map (f := Sum.inr) (fun _ h => h) ?_
    refine J_iload_n rfl rfl (show Dc Y_X0_known 35 (.iload_n 1) 1 36 from ⟨by decide +kernel, rfl⟩) ?_
    exact J_reti (show Dc Y_X0_known 36 (.ireturn) 1 37 from ⟨by decide +kernel, rfl⟩) rfl (h0 _) (by decide) (by decide)
  · refine J_iload_n rfl rfl (show Dc Y_X0_known 10 (.iload_n 1) 1 11 from ⟨by decide +kernel, rfl⟩) ?_
    refine J_aload_n rfl rfl (show Dc Y_X0_known 11 (.aload_n 0) 1 12 from ⟨by decide +kernel, rfl⟩) ?_
    refine J_getR (show Dc Y_X0_known 12 (.getfield 9) 3 15 from ⟨by decide +kernel, rfl⟩) w_f_RX0_9 rfl (fun v1 => ?_)
    refine J_iload_n rfl rfl (show Dc Y_X0_known 15 (.iload_n 2) 1 16 from ⟨by decide +kernel, rfl⟩) ?_
    refine J_iald (show Dc Y_X0_known 16 (.iaload) 1 17 from ⟨by decide +kernel, rfl⟩) (fun v2 => ?_)
    refine J_if_le (tg := 26) (show Dc Y_X0_known 17 (.ifCond .le 9) 3 20 from ⟨by decide +kernel, rfl⟩) (by decide) (fun h => ?_) (fun h => ?_)
    · refine J_iconst (0 : Int32) rfl (show Dc Y_X0_known 26 (.iconst 0) 1 27 from ⟨by decide +kernel, rfl⟩) ?_
      refine J_mask [true, false, true] ?_
      exact j_X0_known_27 N x0 x2 x1 (0 : Int32) g h0 hL4
    · refine J_iconst (1 : Int32) rfl (show Dc Y_X0_known 20 (.iconst 1) 1 21 from ⟨by decide +kernel, rfl⟩) ?_
      refine J_iload_n rfl rfl (show Dc Y_X0_known 21 (.iload_n 2) 1 22 from ⟨by decide +kernel, rfl⟩) ?_
      refine J_ishl (show Dc Y_X0_known 22 (.ishl) 1 23 from ⟨by decide +kernel, rfl⟩) ?_
      refine J_goto (tg := 27) (show Dc Y_X0_known 23 (.goto 4) 3 26 from ⟨by decide +kernel, rfl⟩) (by decide) ?_
      refine J_mask [true, false, true] ?_
      exact j_X0_known_27 N x0 x2 x1 ((1 : Int32) <<< (x2 &&& 31)) g h0 hL4

theorem j_X0_known {X : ZX} (N : Nat) (x0 : Nat)   (g : ZS) {K : Int32 → Prop} (h0 : ∀ v, K v → xK X (some (.int v)) g) : J Y_X0_known X 0 0 0 [some (.ref x0), none, none] [] g (f_X0_known N x0 g) K := by
  unfold f_X0_known
  refine J_iconst (0 : Int32) rfl (show Dc Y_X0_known 0 (.iconst 0) 1 1 from ⟨by decide +kernel, rfl⟩) ?_
  refine J_istore_n [some (.ref x0), some (.int (0 : Int32)), none] (show Dc Y_X0_known 1 (.istore_n 1) 1 2 from ⟨by decide +kernel, rfl⟩) rfl (by decide) rfl rfl ?_
  refine J_iconst (0 : Int32) rfl (show Dc Y_X0_known 2 (.iconst 0) 1 3 from ⟨by decide +kernel, rfl⟩) ?_
  refine J_istore_n [some (.ref x0), some (.int (0 : Int32)), some (.int (0 : Int32))] (show Dc Y_X0_known 3 (.istore_n 2) 1 4 from ⟨by decide +kernel, rfl⟩) rfl (by decide) rfl rfl ?_
  exact J_loop (X := X) (K := K) (uc := fun _ => 0) (us := fun _ => 0) (lf := fun s => [some (.ref x0), some (.int s.1), some (.int s.2)]) (gf := fun s => g) (fun s => j_X0_known_4 (K := zKl Y_X0_known X 4 (fun _ => 0) (fun _ => 0) (fun s => [some (.ref x0), some (.int s.1), some (.int s.2)]) (fun s => g) K) N x0 s.1 s.2 g h0 (fun s h => h)) N ((0 : Int32), (0 : Int32))

theorem c_X0_known {l : Launch} {D : ZD} {B0 : Nat} (N : Nat) (x0 : Nat) (g : ZS) : ∀ r, f_X0_known N x0 g = some r → zCt l D B0 yX0_known Y_X0_known [.ref x0] g (some (.int r)) g :=
  zCt_ofF (vo := fun r => some (.int r)) (so := fun _ => g) (by decide +kernel) rfl (fun h => by cases h) rfl (Nat.le_of_ble_eq_true rfl) (fun X => j_X0_known N x0 g (fun _ h => h))

theorem j_X12_isParrot {X : ZX} (x0 : Nat) (x1 : Int32)   (g : ZS) {K : Int32 → Prop} (h0 : ∀ v, K v → xK X (some (.int v)) g) : J Y_X12_isParrot X 0 0 0 [some (.ref x0), some (.int x1)] [] g (f_X12_isParrot x0 x1 g) K := by
  unfold f_X12_isParrot
  refine J_iload_n rfl rfl (show Dc Y_X12_isParrot 0 (.iload_n 1) 1 1 from ⟨by decide +kernel, rfl⟩) ?_
  refine J_iconst (0 : Int32) rfl (show Dc Y_X12_isParrot 1 (.iconst 0) 1 2 from ⟨by decide +kernel, rfl⟩) ?_
  refine J_aload_n rfl rfl (show Dc Y_X12_isParrot 2 (.aload_n 0) 1 3 from ⟨by decide +kernel, rfl⟩) ?_
  refine J_getI (show Dc Y_X12_isParrot 3 (.getfield 116) 3 6 from ⟨by decide +kernel, rfl⟩) w_f_RX12_116 rfl (fun v1 => ?_)
  refine J_iconst (1 : Int32) rfl (show Dc Y_X12_isParrot 6 (.iconst 1) 1 7 from ⟨by decide +kernel, rfl⟩) ?_
  refine J_isub (show Dc Y_X12_isParrot 7 (.isub) 1 8 from ⟨by decide +kernel, rfl⟩) ?_
  refine J_callSi (fun r => r) (fun _ => g) (show Dc Y_X12_isParrot 8 (.invokestatic 119) 3 11 from ⟨by decide +kernel, rfl⟩) w_m_RX12_119 w_st_X12_in w_cw_X12_in (c_X12_in x1 (0 : Int32) (v1 - (1 : Int32)) g) rfl rfl (by decide) (Nat.le_of_ble_eq_true rfl) (by decide) (by decide) (fun v2 => ?_)
  exact J_retZ (show Dc Y_X12_isParrot 11 (.ireturn) 1 12 from ⟨by decide +kernel, rfl⟩) rfl (h0 _) (by decide) (by decide)

theorem c_X12_isParrot {l : Launch} {D : ZD} {B0 : Nat} (x0 : Nat) (x1 : Int32) (g : ZS) : ∀ r, f_X12_isParrot x0 x1 g = some r → zCt l D B0 yX12_isParrot Y_X12_isParrot [.ref x0, .int x1] g (some (.int r)) g :=
  zCt_ofF (vo := fun r => some (.int r)) (so := fun _ => g) (by decide +kernel) rfl (fun h => by cases h) rfl (Nat.le_of_ble_eq_true rfl) (fun X => j_X12_isParrot x0 x1 g (fun _ h => h))

theorem j_X12_lost {X : ZX} (x0 : Nat)   (g : ZS) {K : (Int32 × ZS) → Prop} (h0 : ∀ v g, K (v, g) → xK X (some (.int v)) g) : J Y_X12_lost X 0 0 0 [some (.ref x0)] [] g (f_X12_lost x0 g) K := by
  unfold f_X12_lost
  refine J_aload_n rfl rfl (show Dc Y_X12_lost 0 (.aload_n 0) 1 1 from ⟨by decide +kernel, rfl⟩) ?_
  refine J_iconst (1 : Int32) rfl (show Dc Y_X12_lost 1 (.iconst 1) 1 2 from ⟨by decide +kernel, rfl⟩) ?_
  refine J_putI (show Dc Y_X12_lost 2 (.putfield 109) 3 5 from ⟨by decide +kernel, rfl⟩) w_f_RX12_109 rfl rfl (fun g1 => ?_) (fun h => by cases h)
  refine J_iconst (0 : Int32) rfl (show Dc Y_X12_lost 5 (.iconst 0) 1 6 from ⟨by decide +kernel, rfl⟩) ?_
  exact J_reti (show Dc Y_X12_lost 6 (.ireturn) 1 7 from ⟨by decide +kernel, rfl⟩) rfl (h0 _ _) (by decide) (by decide)

theorem c_X12_lost {l : Launch} {D : ZD} {B0 : Nat} (x0 : Nat) (g : ZS) : ∀ r, f_X12_lost x0 g = some r → zCt l D B0 yX12_lost Y_X12_lost [.ref x0] g (some (.int r.1)) r.2 :=
  zCt_ofF (vo := fun r => some (.int r.1)) (so := fun r => r.2) (by decide +kernel) rfl (fun h => by cases h) rfl (Nat.le_of_ble_eq_true rfl) (fun X => j_X12_lost x0 g (fun _ _ h => h))

theorem j_X12_hasHeard_17 {X : ZX}  (s0 : Int32)  (g : ZS) {K : Int32 → Prop} (h0 : ∀ v, K v → xK X (some (.int v)) g) : J Y_X12_hasHeard X 0 0 17 [none, none, none] [.int s0] g (f_X12_hasHeard_17 s0 g) K := by
  unfold f_X12_hasHeard_17
  exact J_retZ (show Dc Y_X12_hasHeard 17 (.ireturn) 1 18 from ⟨by decide +kernel, rfl⟩) rfl (h0 _) (by decide) (by decide)

theorem j_X12_hasHeard {X : ZX} (x0 : Nat) (x1 : Int32) (x2 : Int32)   (g : ZS) {K : Int32 → Prop} (h0 : ∀ v, K v → xK X (some (.int v)) g) : J Y_X12_hasHeard X 0 0 0 [some (.ref x0), some (.int x1), some (.int x2)] [] g (f_X12_hasHeard x0 x1 x2 g) K := by
  unfold f_X12_hasHeard
  refine J_aload_n rfl rfl (show Dc Y_X12_hasHeard 0 (.aload_n 0) 1 1 from ⟨by decide +kernel, rfl⟩) ?_
  refine J_iload_n rfl rfl (show Dc Y_X12_hasHeard 1 (.iload_n 1) 1 2 from ⟨by decide +kernel, rfl⟩) ?_
  refine J_iconst (4 : Int32) rfl (show Dc Y_X12_hasHeard 2 (.iconst 4) 1 3 from ⟨by decide +kernel, rfl⟩) ?_
  refine J_iload_n rfl rfl (show Dc Y_X12_hasHeard 3 (.iload_n 2) 1 4 from ⟨by decide +kernel, rfl⟩) ?_
  refine J_iadd (show Dc Y_X12_hasHeard 4 (.iadd) 1 5 from ⟨by decide +kernel, rfl⟩) ?_
  refine J_callSi (fun r => r) (fun _ => g) (show Dc Y_X12_hasHeard 5 (.invokestatic 179) 3 8 from ⟨by decide +kernel, rfl⟩) w_m_RX12_179 w_st_X12_of w_cw_X12_of (c_X12_of x1 ((4 : Int32) + x2) g) rfl rfl (by decide) (Nat.le_of_ble_eq_true rfl) (by decide) (by decide) (fun v1 => ?_)
  refine J_iald (show Dc Y_X12_hasHeard 8 (.iaload) 1 9 from ⟨by decide +kernel, rfl⟩) (fun v2 => ?_)
  refine J_if_le (tg := 16) (show Dc Y_X12_hasHeard 9 (.ifCond .le 7) 3 12 from ⟨by decide +kernel, rfl⟩) (by decide) (fun h => ?_) (fun h => ?_)
  · refine J_iconst (0 : Int32) rfl (show Dc Y_X12_hasHeard 16 (.iconst 0) 1 17 from ⟨by decide +kernel, rfl⟩) ?_
    refine J_mask [false, false, false] ?_
    exact j_X12_hasHeard_17 (0 : Int32) g h0
  · refine J_iconst (1 : Int32) rfl (show Dc Y_X12_hasHeard 12 (.iconst 1) 1 13 from ⟨by decide +kernel, rfl⟩) ?_
    refine J_goto (tg := 17) (show Dc Y_X12_hasHeard 13 (.goto 4) 3 16 from ⟨by decide +kernel, rfl⟩) (by decide) ?_
    refine J_mask [false, false, false] ?_
    exact j_X12_hasHeard_17 (1 : Int32) g h0

theorem c_X12_hasHeard {l : Launch} {D : ZD} {B0 : Nat} (x0 : Nat) (x1 : Int32) (x2 : Int32) (g : ZS) : ∀ r, f_X12_hasHeard x0 x1 x2 g = some r → zCt l D B0 yX12_hasHeard Y_X12_hasHeard [.ref x0, .int x1, .int x2] g (some (.int r)) g :=
  zCt_ofF (vo := fun r => some (.int r)) (so := fun _ => g) (by decide +kernel) rfl (fun h => by cases h) rfl (Nat.le_of_ble_eq_true rfl) (fun X => j_X12_hasHeard x0 x1 x2 g (fun _ h => h))

theorem j_X12_heardBits_27 {X : ZX} (N : Nat) (x0 : Nat) (x1 : Int32) (x3 : Int32) (s0 : Int32) (s1 : Int32)  (g : ZS) {K : ((Int32 × Int32) ⊕ Int32) → Prop} (h0 : ∀ v, K (.inr v) → xK X (some (.int v)) g) (hL4 : ∀ s, K (.inl s) → zG Y_X12_heardBits X 0 0 4 [some (.ref x0), some (.int x1), some (.int s.1), some (.int s.2)] [] g) : J Y_X12_heardBits X 0 0 27 [some (.ref x0), some (.int x1), none, some (.int x3)] [.int s1, .int s0] g (f_X12_heardBits_27 N x0 x1 x3 s0 s1 g) K := by
  unfold f_X12_heardBits_27
  refine J_ior (show Dc Y_X12_heardBits 27 (.ior) 1 28 from ⟨by decide +kernel, rfl⟩) ?_
  refine J_istore_n [some (.ref x0), some (.int x1), some (.int (s0 ||| s1)), some (.int x3)] (show Dc Y_X12_heardBits 28 (.istore_n 2) 1 29 from ⟨by decide +kernel, rfl⟩) rfl (by decide) rfl rfl ?_
  refine J_iinc (1 : Int32) [some (.ref x0), some (.int x1), some (.int (s0 ||| s1)), some (.int (x3 + (1 : Int32)))] (show Dc Y_X12_heardBits 29 (.iinc 3 1) 3 32 from ⟨by decide +kernel, rfl⟩) rfl rfl (by decide) rfl rfl ?_
  refine J_goto (tg := 4) (show Dc Y_X12_heardBits 32 (.goto (-28)) 3 35 from ⟨by decide +kernel, rfl⟩) (by decide) ?_
  exact J_leaf (fun h => hL4 (s0 ||| s1, x3 + (1 : Int32)) h)

theorem j_X12_heardBits_4 {X : ZX} (N : Nat) (x0 : Nat) (x1 : Int32) (x2 : Int32) (x3 : Int32)   (g : ZS) {K : ((Int32 × Int32) ⊕ Int32) → Prop} (h0 : ∀ v, K (.inr v) → xK X (some (.int v)) g) (hL4 : ∀ s, K (.inl s) → zG Y_X12_heardBits X 0 0 4 [some (.ref x0), some (.int x1), some (.int s.1), some (.int s.2)] [] g) : J Y_X12_heardBits X 0 0 4 [some (.ref x0), some (.int x1), some (.int x2), some (.int x3)] [] g (f_X12_heardBits_4 N x0 x1 x2 x3 g) K := by
  unfold f_X12_heardBits_4
  refine J_iload_n rfl rfl (show Dc Y_X12_heardBits 4 (.iload_n 3) 1 5 from ⟨by decide +kernel, rfl⟩) ?_
  refine J_bipush (8 : Int32) rfl (show Dc Y_X12_heardBits 5 (.bipush 8) 2 7 from ⟨by decide +kernel, rfl⟩) ?_
  refine J_icmp_ge (tg := 35) (show Dc Y_X12_heardBits 7 (.if_icmp .ge 28) 3 10 from ⟨by decide +kernel, rfl⟩) (by decide) (fun h => ?_) (fun h => ?_)
  · refine J_map (f := Sum.inr) (fun _ h => h) ?_
    refine J_iload_n rfl rfl (show Dc Y_X12_heardBits 35 (.iload_n 2) 1 36 from ⟨by decide +kernel, rfl⟩) ?_
    exact J_reti (show Dc Y_X12_heardBits 36 (.ireturn) 1 37 from ⟨by decide +kernel, rfl⟩) rfl (h0 _) (by decide) (by decide)
  · refine J_iload_n rfl rfl (show Dc Y_X12_heardBits 10 (.iload_n 2) 1 11 from ⟨by decide +kernel, rfl⟩) ?_
    refine J_aload_n rfl rfl (show Dc Y_X12_heardBits 11 (.aload_n 0) 1 12 from ⟨by decide +kernel, rfl⟩) ?_
    refine J_iload_n rfl rfl (show Dc Y_X12_heardBits 12 (.iload_n 1) 1 13 from ⟨by decide +kernel, rfl⟩) ?_
    refine J_iload_n rfl rfl (show Dc Y_X12_heardBits 13 (.iload_n 3) 1 14 from ⟨by decide +kernel, rfl⟩) ?_
    refine J_callSi (fun r => r) (fun _ => g) (show Dc Y_X12_heardBits 14 (.invokestatic 221) 3 17 from ⟨by decide +kernel, rfl⟩) w_m_RX12_221 w_st_X12_hasHeard w_cw_X12_hasHeard (c_X12_hasHeard x0 x1 x3 g) rfl rfl (by decide) (Nat.le_of_ble_eq_true rfl) (by decide) (by decide) (fun v1 => ?_)
    refine J_if_eq (tg := 26) (show Dc Y_X12_heardBits 17 (.ifCond .eq 9) 3 20 from ⟨by decide +kernel, rfl⟩) (by decide) (fun h => ?_) (fun h => ?_)
    · refine J_iconst (0 : Int32) rfl (show Dc Y_X12_heardBits 26 (.iconst 0) 1 27 from ⟨by decide +kernel, rfl⟩) ?_
      refine J_mask [true, true, false, true] ?_
      exact j_X12_heardBits_27 N x0 x1 x3 x2 (0 : Int32) g h0 hL4
    · refine J_iconst (1 : Int32) rfl (show Dc Y_X12_heardBits 20 (.iconst 1) 1 21 from ⟨by decide +kernel, rfl⟩) ?_
      refine J_iload_n rfl rfl (show Dc Y_X12_heardBits 21 (.iload_n 3) 1 22 from ⟨by decide +kernel, rfl⟩) ?_
      refine J_ishl (show Dc Y_X12_heardBits 22 (.ishl) 1 23 from ⟨by decide +kernel, rfl⟩) ?_
      refine J_goto (tg := 27) (show Dc Y_X12_heardBits 23 (.goto 4) 3 26 from ⟨by decide +kernel, rfl⟩) (by decide) ?_
      refine J_mask [true, true, false, true] ?_
      exact j_X12_heardBits_27 N x0 x1 x3 x2 ((1 : Int32) <<< (x3 &&& 31)) g h0 hL4

theorem j_X12_heardBits {X : ZX} (N : Nat) (x0 : Nat) (x1 : Int32)   (g : ZS) {K : Int32 → Prop} (h0 : ∀ v, K v → xK X (some (.int v)) g) : J Y_X12_heardBits X 0 0 0 [some (.ref x0), some (.int x1), none, none] [] g (f_X12_heardBits N x0 x1 g) K := by
  unfold f_X12_heardBits
  refine J_iconst (0 : Int32) rfl (show Dc Y_X12_heardBits 0 (.iconst 0) 1 1 from ⟨by decide +kernel, rfl⟩) ?_
  refine J_istore_n [some (.ref x0), some (.int x1), some (.int (0 : Int32)), none] (show Dc Y_X12_heardBits 1 (.istore_n 2) 1 2 from ⟨by decide +kernel, rfl⟩) rfl (by decide) rfl rfl ?_
  refine J_iconst (0 : Int32) rfl (show Dc Y_X12_heardBits 2 (.iconst 0) 1 3 from ⟨by decide +kernel, rfl⟩) ?_
  refine J_istore_n [some (.ref x0), some (.int x1), some (.int (0 : Int32)), some (.int (0 : Int32))] (show Dc Y_X12_heardBits 3 (.istore_n 3) 1 4 from ⟨by decide +kernel, rfl⟩) rfl (by decide) rfl rfl ?_
  exact J_loop (X := X) (K := K) (uc := fun _ => 0) (us := fun _ => 0) (lf := fun s => [some (.ref x0), some (.int x1), some (.int s.1), some (.int s.2)]) (gf := fun s => g) (fun s => j_X12_heardBits_4 (K := zKl Y_X12_heardBits X 4 (fun _ => 0) (fun _ => 0) (fun s => [some (.ref x0), some (.int x1), some (.int s.1), some (.int s.2)]) (fun s => g) K) N x0 x1 s.1 s.2 g h0 (fun s h => h)) N ((0 : Int32), (0 : Int32))

theorem c_X12_heardBits {l : Launch} {D : ZD} {B0 : Nat} (N : Nat) (x0 : Nat) (x1 : Int32) (g : ZS) : ∀ r, f_X12_heardBits N x0 x1 g = some r → zCt l D B0 yX12_heardBits Y_X12_heardBits [.ref x0, .int x1] g (some (.int r)) g :=
  zCt_ofF (vo := fun r => some (.int r)) (so := fun _ => g) (by decide +kernel) rfl (fun h => by cases h) rfl (Nat.le_of_ble_eq_true rfl) (fun X => j_X12_heardBits N x0 x1 g (fun _ h => h))

theorem j_X12_parrot_22 {X : ZX} (N : Nat) (x0 : Nat)   (g : ZS) {K : (Int32 × ZS) → Prop} (h0 : ∀ v g, K (v, g) → xK X (some (.int v)) g) : J Y_X12_parrot X 0 0 22 [some (.ref x0), none, none] [] g (f_X12_parrot_22 N x0 g) K := by
  unfold f_X12_parrot_22
  refine J_aload_n rfl rfl (show Dc Y_X12_parrot 22 (.aload_n 0) 1 23 from ⟨by decide +kernel, rfl⟩) ?_
  refine J_callVi (fun r => r.1) (fun r => r.2) (show Dc Y_X12_parrot 23 (.invokevirtual 237) 3 26 from ⟨by decide +kernel, rfl⟩) w_m_RX12_237 w_in_X12_lost rfl w_se_X12_lost w_cw_X12_lost (c_X12_lost x0 g) rfl rfl (by decide) (Nat.le_of_ble_eq_true rfl) (by decide) (by decide) (fun r1 => ?_)
  exact J_reti (show Dc Y_X12_parrot 26 (.ireturn) 1 27 from ⟨by decide +kernel, rfl⟩) rfl (h0 _ _) (by decide) (by decide)

theorem j_X12_parrot {X : ZX} (N : Nat) (x0 : Nat) (x1 : Int32) (x2 : Int32)   (g : ZS) {K : (Int32 × ZS) → Prop} (h0 : ∀ v g, K (v, g) → xK X (some (.int v)) g) : J Y_X12_parrot X 0 0 0 [some (.ref x0), some (.int x1), some (.int x2)] [] g (f_X12_parrot N x0 x1 x2 g) K := by
  unfold f_X12_parrot
  refine J_aload_n rfl rfl (show Dc Y_X12_parrot 0 (.aload_n 0) 1 1 from ⟨by decide +kernel, rfl⟩) ?_
  refine J_iconst (0 : Int32) rfl (show Dc Y_X12_parrot 1 (.iconst 0) 1 2 from ⟨by decide +kernel, rfl⟩) ?_
  refine J_putI (show Dc Y_X12_parrot 2 (.putfield 109) 3 5 from ⟨by decide +kernel, rfl⟩) w_f_RX12_109 rfl rfl (fun g1 => ?_) (fun h => by cases h)
  refine J_aload_n rfl rfl (show Dc Y_X12_parrot 5 (.aload_n 0) 1 6 from ⟨by decide +kernel, rfl⟩) ?_
  refine J_iload_n rfl rfl (show Dc Y_X12_parrot 6 (.iload_n 1) 1 7 from ⟨by decide +kernel, rfl⟩) ?_
  refine J_callVi (fun r => r) (fun _ => g1) (show Dc Y_X12_parrot 7 (.invokevirtual 234) 3 10 from ⟨by decide +kernel, rfl⟩) w_m_RX12_234 w_in_X12_isParrot rfl w_se_X12_isParrot w_cw_X12_isParrot (c_X12_isParrot x0 x1 g1) rfl rfl (by decide) (Nat.le_of_ble_eq_true rfl) (by decide) (by decide) (fun v2 => ?_)
  refine J_if_eq (tg := 22) (show Dc Y_X12_parrot 10 (.ifCond .eq 12) 3 13 from ⟨by decide +kernel, rfl⟩) (by decide) (fun h => ?_) (fun h => ?_)
  · refine J_mask [true, false, false] ?_
    exact j_X12_parrot_22 N x0 g1 h0
  · refine J_iload_n rfl rfl (show Dc Y_X12_parrot 13 (.iload_n 2) 1 14 from ⟨by decide +kernel, rfl⟩) ?_
    refine J_iconst (0 : Int32) rfl (show Dc Y_X12_parrot 14 (.iconst 0) 1 15 from ⟨by decide +kernel, rfl⟩) ?_
    refine J_iconst (5 : Int32) rfl (show Dc Y_X12_parrot 15 (.iconst 5) 1 16 from ⟨by decide +kernel, rfl⟩) ?_
    refine J_callSi (fun r => r) (fun _ => g1) (show Dc Y_X12_parrot 16 (.invokestatic 119) 3 19 from ⟨by decide +kernel, rfl⟩) w_m_RX12_119 w_st_X12_in w_cw_X12_in (c_X12_in x2 (0 : Int32) (5 : Int32) g1) rfl rfl (by decide) (Nat.le_of_ble_eq_true rfl) (by decide) (by decide) (fun v3 => ?_)
    refine J_if_ne (tg := 27) (show Dc Y_X12_parrot 19 (.ifCond .ne 8) 3 22 from ⟨by decide +kernel, rfl⟩) (by decide) (fun h => ?_) (fun h => ?_)
    · refine J_iload_n rfl rfl (show Dc Y_X12_parrot 27 (.iload_n 2) 1 28 from ⟨by decide +kernel, rfl⟩) ?_
      refine J_tsw (tgd := 113) [((0 : Int32), 64, _), ((1 : Int32), 75, _), ((2 : Int32), 82, _), ((3 : Int32), 93, _), ((4 : Int32), 104, _)] (show Dc Y_X12_parrot 28 (.tableswitch 85 0 4 #[36, 47, 54, 65, 76]) 36 64 from ⟨by decide +kernel, rfl⟩) (by simp only [List.map_cons, List.map_nil]; decide +kernel) ?_ ?_
      · refine List.forall_mem_cons.mpr ⟨?_, List.forall_mem_cons.mpr ⟨?_, List.forall_mem_cons.mpr ⟨?_, List.forall_mem_cons.mpr ⟨?_, List.forall_mem_cons.mpr ⟨?_, fun _ h => absurd h List.not_mem_nil⟩⟩⟩⟩⟩
        · refine J_aload_n rfl rfl (show Dc Y_X12_parrot 64 (.aload_n 0) 1 65 from ⟨by decide +kernel, rfl⟩) ?_
          refine J_getR (show Dc Y_X12_parrot 65 (.getfield 9) 3 68 from ⟨by decide +kernel, rfl⟩) w_f_RX12_9 rfl (fun v4 => ?_)
          refine J_iload_n rfl rfl (show Dc Y_X12_parrot 68 (.iload_n 1) 1 69 from ⟨by decide +kernel, rfl⟩) ?_
          refine J_iconst (0 : Int32) rfl (show Dc Y_X12_parrot 69 (.iconst 0) 1 70 from ⟨by decide +kernel, rfl⟩) ?_
          refine J_callSi (fun r => r) (fun _ => g1) (show Dc Y_X12_parrot 70 (.invokestatic 179) 3 73 from ⟨by decide +kernel, rfl⟩) w_m_RX12_179 w_st_X12_of w_cw_X12_of (c_X12_of x1 (0 : Int32) g1) rfl rfl (by decide) (Nat.le_of_ble_eq_true rfl) (by decide) (by decide) (fun v5 => ?_)
          refine J_iald (show Dc Y_X12_parrot 73 (.iaload) 1 74 from ⟨by decide +kernel, rfl⟩) (fun v6 => ?_)
          exact J_reti (show Dc Y_X12_parrot 74 (.ireturn) 1 75 from ⟨by decide +kernel, rfl⟩) rfl (h0 _ _) (by decide) (by decide)
        · refine J_aload_n rfl rfl (show Dc Y_X12_parrot 75 (.aload_n 0) 1 76 from ⟨by decide +kernel, rfl⟩) ?_
          refine J_getR (show Dc Y_X12_parrot 76 (.getfield 13) 3 79 from ⟨by decide +kernel, rfl⟩) w_f_RX12_13 rfl (fun v7 => ?_)
          refine J_iload_n rfl rfl (show Dc Y_X12_parrot 79 (.iload_n 1) 1 80 from ⟨by decide +kernel, rfl⟩) ?_
          refine J_iald (show Dc Y_X12_parrot 80 (.iaload) 1 81 from ⟨by decide +kernel, rfl⟩) (fun v8 => ?_)
          exact J_reti (show Dc Y_X12_parrot 81 (.ireturn) 1 82 from ⟨by decide +kernel, rfl⟩) rfl (h0 _ _) (by decide) (by decide)
        · refine J_aload_n rfl rfl (show Dc Y_X12_parrot 82 (.aload_n 0) 1 83 from ⟨by decide +kernel, rfl⟩) ?_
          refine J_getR (show Dc Y_X12_parrot 83 (.getfield 9) 3 86 from ⟨by decide +kernel, rfl⟩) w_f_RX12_9 rfl (fun v9 => ?_)
          refine J_iload_n rfl rfl (show Dc Y_X12_parrot 86 (.iload_n 1) 1 87 from ⟨by decide +kernel, rfl⟩) ?_
          refine J_iconst (1 : Int32) rfl (show Dc Y_X12_parrot 87 (.iconst 1) 1 88 from ⟨by decide +kernel, rfl⟩) ?_
          refine J_callSi (fun r => r) (fun _ => g1) (show Dc Y_X12_parrot 88 (.invokestatic 179) 3 91 from ⟨by decide +kernel, rfl⟩) w_m_RX12_179 w_st_X12_of w_cw_X12_of (c_X12_of x1 (1 : Int32) g1) rfl rfl (by decide) (Nat.le_of_ble_eq_true rfl) (by decide) (by decide) (fun v10 => ?_)
          refine J_iald (show Dc Y_X12_parrot 91 (.iaload) 1 92 from ⟨by decide +kernel, rfl⟩) (fun v11 => ?_)
          exact J_reti (show Dc Y_X12_parrot 92 (.ireturn) 1 93 from ⟨by decide +kernel, rfl⟩) rfl (h0 _ _) (by decide) (by decide)
        · refine J_aload_n rfl rfl (show Dc Y_X12_parrot 93 (.aload_n 0) 1 94 from ⟨by decide +kernel, rfl⟩) ?_
          refine J_getR (show Dc Y_X12_parrot 94 (.getfield 9) 3 97 from ⟨by decide +kernel, rfl⟩) w_f_RX12_9 rfl (fun v12 => ?_)
          refine J_iload_n rfl rfl (show Dc Y_X12_parrot 97 (.iload_n 1) 1 98 from ⟨by decide +kernel, rfl⟩) ?_
          refine J_iconst (2 : Int32) rfl (show Dc Y_X12_parrot 98 (.iconst 2) 1 99 from ⟨by decide +kernel, rfl⟩) ?_
          refine J_callSi (fun r => r) (fun _ => g1) (show Dc Y_X12_parrot 99 (.invokestatic 179) 3 102 from ⟨by decide +kernel, rfl⟩) w_m_RX12_179 w_st_X12_of w_cw_X12_of (c_X12_of x1 (2 : Int32) g1) rfl rfl (by decide) (Nat.le_of_ble_eq_true rfl) (by decide) (by decide) (fun v13 => ?_)
          refine J_iald (show Dc Y_X12_parrot 102 (.iaload) 1 103 from ⟨by decide +kernel, rfl⟩) (fun v14 => ?_)
          exact J_reti (show Dc Y_X12_parrot 103 (.ireturn) 1 104 from ⟨by decide +kernel, rfl⟩) rfl (h0 _ _) (by decide) (by decide)
        · refine J_aload_n rfl rfl (show Dc Y_X12_parrot 104 (.aload_n 0) 1 105 from ⟨by decide +kernel, rfl⟩) ?_
          refine J_getR (show Dc Y_X12_parrot 105 (.getfield 9) 3 108 from ⟨by decide +kernel, rfl⟩) w_f_RX12_9 rfl (fun v15 => ?_)
          refine J_iload_n rfl rfl (show Dc Y_X12_parrot 108 (.iload_n 1) 1 109 from ⟨by decide +kernel, rfl⟩) ?_
          refine J_callSi (fun r => r) (fun _ => g1) (show Dc Y_X12_parrot 109 (.invokestatic 240) 3 112 from ⟨by decide +kernel, rfl⟩) w_m_RX12_240 w_st_X12_heardBits w_cw_X12_heardBits (c_X12_heardBits N v15 x1 g1) rfl rfl (by decide) (Nat.le_of_ble_eq_true rfl) (by decide) (by decide) (fun v16 => ?_)
          exact J_reti (show Dc Y_X12_parrot 112 (.ireturn) 1 113 from ⟨by decide +kernel, rfl⟩) rfl (h0 _ _) (by decide) (by decide)
      · refine J_aload_n rfl rfl (show Dc Y_X12_parrot 113 (.aload_n 0) 1 114 from ⟨by decide +kernel, rfl⟩) ?_
        refine J_getR (show Dc Y_X12_parrot 114 (.getfield 9) 3 117 from ⟨by decide +kernel, rfl⟩) w_f_RX12_9 rfl (fun v17 => ?_)
        refine J_iload_n rfl rfl (show Dc Y_X12_parrot 117 (.iload_n 1) 1 118 from ⟨by decide +kernel, rfl⟩) ?_
        refine J_iconst (3 : Int32) rfl (show Dc Y_X12_parrot 118 (.iconst 3) 1 119 from ⟨by decide +kernel, rfl⟩) ?_
        refine J_callSi (fun r => r) (fun _ => g1) (show Dc Y_X12_parrot 119 (.invokestatic 179) 3 122 from ⟨by decide +kernel, rfl⟩) w_m_RX12_179 w_st_X12_of w_cw_X12_of (c_X12_of x1 (3 : Int32) g1) rfl rfl (by decide) (Nat.le_of_ble_eq_true rfl) (by decide) (by decide) (fun v18 => ?_)
        refine J_iald (show Dc Y_X12_parrot 122 (.iaload) 1 123 from ⟨by decide +kernel, rfl⟩) (fun v19 => ?_)
        exact J_reti (show Dc Y_X12_parrot 123 (.ireturn) 1 124 from ⟨by decide +kernel, rfl⟩) rfl (h0 _ _) (by decide) (by decide)
    · refine J_mask [true, false, false] ?_
      exact j_X12_parrot_22 N x0 g1 h0

theorem c_X12_parrot {l : Launch} {D : ZD} {B0 : Nat} (N : Nat) (x0 : Nat) (x1 : Int32) (x2 : Int32) (g : ZS) : ∀ r, f_X12_parrot N x0 x1 x2 g = some r → zCt l D B0 yX12_parrot Y_X12_parrot [.ref x0, .int x1, .int x2] g (some (.int r.1)) r.2 :=
  zCt_ofF (vo := fun r => some (.int r.1)) (so := fun r => r.2) (by decide +kernel) rfl (fun h => by cases h) rfl (Nat.le_of_ble_eq_true rfl) (fun X => j_X12_parrot N x0 x1 x2 g (fun _ _ h => h))

theorem j_X12_thrown {X : ZX} (x0 : Nat)   (g : ZS) {K : Int32 → Prop} (h0 : ∀ v, K v → xK X (some (.int v)) g) : J Y_X12_thrown X 0 0 0 [some (.ref x0)] [] g (f_X12_thrown x0 g) K := by
  unfold f_X12_thrown
  refine J_aload_n rfl rfl (show Dc Y_X12_thrown 0 (.aload_n 0) 1 1 from ⟨by decide +kernel, rfl⟩) ?_
  refine J_getI (show Dc Y_X12_thrown 1 (.getfield 109) 3 4 from ⟨by decide +kernel, rfl⟩) w_f_RX12_109 rfl (fun v1 => ?_)
  exact J_reti (show Dc Y_X12_thrown 4 (.ireturn) 1 5 from ⟨by decide +kernel, rfl⟩) rfl (h0 _) (by decide) (by decide)

theorem c_X12_thrown {l : Launch} {D : ZD} {B0 : Nat} (x0 : Nat) (g : ZS) : ∀ r, f_X12_thrown x0 g = some r → zCt l D B0 yX12_thrown Y_X12_thrown [.ref x0] g (some (.int r)) g :=
  zCt_ofF (vo := fun r => some (.int r)) (so := fun _ => g) (by decide +kernel) rfl (fun h => by cases h) rfl (Nat.le_of_ble_eq_true rfl) (fun X => j_X12_thrown x0 g (fun _ h => h))

theorem j_X11_isWord_15 {X : ZX}  (s0 : Int32)  (g : ZS) {K : Int32 → Prop} (h0 : ∀ v, K v → xK X (some (.int v)) g) : J Y_X11_isWord X 0 0 15 [none] [.int s0] g (f_X11_isWord_15 s0) K := by
  unfold f_X11_isWord_15
  exact J_retZ (show Dc Y_X11_isWord 15 (.ireturn) 1 16 from ⟨by decide +kernel, rfl⟩) rfl (h0 _) (by decide) (by decide)

theorem j_X11_isWord_14 {X : ZX}    (g : ZS) {K : Int32 → Prop} (h0 : ∀ v, K v → xK X (some (.int v)) g) : J Y_X11_isWord X 0 0 14 [none] [] g (f_X11_isWord_14) K := by
  unfold f_X11_isWord_14
  refine J_iconst (0 : Int32) rfl (show Dc Y_X11_isWord 14 (.iconst 0) 1 15 from ⟨by decide +kernel, rfl⟩) ?_
  exact j_X11_isWord_15 (0 : Int32) g h0

theorem j_X11_isWord {X : ZX} (x0 : Int32)   (g : ZS) {K : Int32 → Prop} (h0 : ∀ v, K v → xK X (some (.int v)) g) : J Y_X11_isWord X 0 0 0 [some (.int x0)] [] g (f_X11_isWord x0) K := by
  unfold f_X11_isWord
  refine J_iload_n rfl rfl (show Dc Y_X11_isWord 0 (.iload_n 0) 1 1 from ⟨by decide +kernel, rfl⟩) ?_
  refine J_if_lt (tg := 14) (show Dc Y_X11_isWord 1 (.ifCond .lt 13) 3 4 from ⟨by decide +kernel, rfl⟩) (by decide) (fun h => ?_) (fun h => ?_)
  · refine J_mask [false] ?_
    exact j_X11_isWord_14 g h0
  · refine J_iload_n rfl rfl (show Dc Y_X11_isWord 4 (.iload_n 0) 1 5 from ⟨by decide +kernel, rfl⟩) ?_
    refine J_bipush (8 : Int32) rfl (show Dc Y_X11_isWord 5 (.bipush 8) 2 7 from ⟨by decide +kernel, rfl⟩) ?_
    refine J_icmp_ge (tg := 14) (show Dc Y_X11_isWord 7 (.if_icmp .ge 7) 3 10 from ⟨by decide +kernel, rfl⟩) (by decide) (fun h => ?_) (fun h => ?_)
    · refine J_mask [false] ?_
      exact j_X11_isWord_14 g h0
    · refine J_iconst (1 : Int32) rfl (show Dc Y_X11_isWord 10 (.iconst 1) 1 11 from ⟨by decide +kernel, rfl⟩) ?_
      refine J_goto (tg := 15) (show Dc Y_X11_isWord 11 (.goto 4) 3 14 from ⟨by decide +kernel, rfl⟩) (by decide) ?_
      refine J_mask [false] ?_
      exact j_X11_isWord_15 (1 : Int32) g h0

theorem c_X11_isWord {l : Launch} {D : ZD} {B0 : Nat} (x0 : Int32) (g : ZS) : ∀ r, f_X11_isWord x0 = some r → zCt l D B0 yX11_isWord Y_X11_isWord [.int x0] g (some (.int r)) g :=
  zCt_ofF (vo := fun r => some (.int r)) (so := fun _ => g) (by decide +kernel) rfl (fun h => by cases h) rfl (Nat.le_of_ble_eq_true rfl) (fun X => j_X11_isWord x0 g (fun _ h => h))

theorem j_X5_valueOf {X : ZX} (x0 : Int32) (x1 : Nat) (x2 : Int32) (x3 : Int32)   (g : ZS) {K : Int32 → Prop} (h0 : ∀ v, K v → xK X (some (.int v)) g) : J Y_X5_valueOf X 0 0 0 [some (.int x0), some (.ref x1), some (.int x2), some (.int x3)] [] g (f_X5_valueOf x0 x1 x2 x3 g) K := by
  unfold f_X5_valueOf
  refine J_iload_n rfl rfl (show Dc Y_X5_valueOf 0 (.iload_n 0) 1 1 from ⟨by decide +kernel, rfl⟩) ?_
  refine J_tsw (tgd := 75) [((0 : Int32), 40, _), ((1 : Int32), 47, _), ((2 : Int32), 54, _), ((3 : Int32), 61, _), ((4 : Int32), 68, _), ((5 : Int32), 70, _)] (show Dc Y_X5_valueOf 1 (.tableswitch 74 0 5 #[39, 46, 53, 60, 67, 69]) 39 40 from ⟨by decide +kernel, rfl⟩) (by simp only [List.map_cons, List.map_nil]; decide +kernel) ?_ ?_
  · refine List.forall_mem_cons.mpr ⟨?_, List.forall_mem_cons.mpr ⟨?_, List.forall_mem_cons.mpr ⟨?_, List.forall_mem_cons.mpr ⟨?_, List.forall_mem_cons.mpr ⟨?_, List.forall_mem_cons.mpr ⟨?_, fun _ h => absurd h List.not_mem_nil⟩⟩⟩⟩⟩⟩
    · refine J_aload_n rfl rfl (show Dc Y_X5_valueOf 40 (.aload_n 1) 1 41 from ⟨by decide +kernel, rfl⟩) ?_
      refine J_getR (show Dc Y_X5_valueOf 41 (.getfield 88) 3 44 from ⟨by decide +kernel, rfl⟩) w_f_RX5_88 rfl (fun v1 => ?_)
      refine J_iload_n rfl rfl (show Dc Y_X5_valueOf 44 (.iload_n 2) 1 45 from ⟨by decide +kernel, rfl⟩) ?_
      refine J_iald (show Dc Y_X5_valueOf 45 (.iaload) 1 46 from ⟨by decide +kernel, rfl⟩) (fun v2 => ?_)
      exact J_reti (show Dc Y_X5_valueOf 46 (.ireturn) 1 47 from ⟨by decide +kernel, rfl⟩) rfl (h0 _) (by decide) (by decide)
    · refine J_aload_n rfl rfl (show Dc Y_X5_valueOf 47 (.aload_n 1) 1 48 from ⟨by decide +kernel, rfl⟩) ?_
      refine J_getR (show Dc Y_X5_valueOf 48 (.getfield 93) 3 51 from ⟨by decide +kernel, rfl⟩) w_f_RX5_93 rfl (fun v3 => ?_)
      refine J_iload_n rfl rfl (show Dc Y_X5_valueOf 51 (.iload_n 2) 1 52 from ⟨by decide +kernel, rfl⟩) ?_
      refine J_iald (show Dc Y_X5_valueOf 52 (.iaload) 1 53 from ⟨by decide +kernel, rfl⟩) (fun v4 => ?_)
      exact J_reti (show Dc Y_X5_valueOf 53 (.ireturn) 1 54 from ⟨by decide +kernel, rfl⟩) rfl (h0 _) (by decide) (by decide)
    · refine J_aload_n rfl rfl (show Dc Y_X5_valueOf 54 (.aload_n 1) 1 55 from ⟨by decide +kernel, rfl⟩) ?_
      refine J_getR (show Dc Y_X5_valueOf 55 (.getfield 107) 3 58 from ⟨by decide +kernel, rfl⟩) w_f_RX5_107 rfl (fun v5 => ?_)
      refine J_iload_n rfl rfl (show Dc Y_X5_valueOf 58 (.iload_n 2) 1 59 from ⟨by decide +kernel, rfl⟩) ?_
      refine J_iald (show Dc Y_X5_valueOf 59 (.iaload) 1 60 from ⟨by decide +kernel, rfl⟩) (fun v6 => ?_)
      exact J_reti (show Dc Y_X5_valueOf 60 (.ireturn) 1 61 from ⟨by decide +kernel, rfl⟩) rfl (h0 _) (by decide) (by decide)
    · refine J_aload_n rfl rfl (show Dc Y_X5_valueOf 61 (.aload_n 1) 1 62 from ⟨by decide +kernel, rfl⟩) ?_
      refine J_getR (show Dc Y_X5_valueOf 62 (.getfield 96) 3 65 from ⟨by decide +kernel, rfl⟩) w_f_RX5_96 rfl (fun v7 => ?_)
      refine J_iload_n rfl rfl (show Dc Y_X5_valueOf 65 (.iload_n 2) 1 66 from ⟨by decide +kernel, rfl⟩) ?_
      refine J_iald (show Dc Y_X5_valueOf 66 (.iaload) 1 67 from ⟨by decide +kernel, rfl⟩) (fun v8 => ?_)
      exact J_reti (show Dc Y_X5_valueOf 67 (.ireturn) 1 68 from ⟨by decide +kernel, rfl⟩) rfl (h0 _) (by decide) (by decide)
    · refine J_iload_n rfl rfl (show Dc Y_X5_valueOf 68 (.iload_n 2) 1 69 from ⟨by decide +kernel, rfl⟩) ?_
      exact J_reti (show Dc Y_X5_valueOf 69 (.ireturn) 1 70 from ⟨by decide +kernel, rfl⟩) rfl (h0 _) (by decide) (by decide)
    · refine J_aload_n rfl rfl (show Dc Y_X5_valueOf 70 (.aload_n 1) 1 71 from ⟨by decide +kernel, rfl⟩) ?_
      refine J_getI (show Dc Y_X5_valueOf 71 (.getfield 110) 3 74 from ⟨by decide +kernel, rfl⟩) w_f_RX5_110 rfl (fun v9 => ?_)
      exact J_reti (show Dc Y_X5_valueOf 74 (.ireturn) 1 75 from ⟨by decide +kernel, rfl⟩) rfl (h0 _) (by decide) (by decide)
  · refine J_iload_n rfl rfl (show Dc Y_X5_valueOf 75 (.iload_n 3) 1 76 from ⟨by decide +kernel, rfl⟩) ?_
    exact J_reti (show Dc Y_X5_valueOf 76 (.ireturn) 1 77 from ⟨by decide +kernel, rfl⟩) rfl (h0 _) (by decide) (by decide)

theorem c_X5_valueOf {l : Launch} {D : ZD} {B0 : Nat} (x0 : Int32) (x1 : Nat) (x2 : Int32) (x3 : Int32) (g : ZS) : ∀ r, f_X5_valueOf x0 x1 x2 x3 g = some r → zCt l D B0 yX5_valueOf Y_X5_valueOf [.int x0, .ref x1, .int x2, .int x3] g (some (.int r)) g :=
  zCt_ofF (vo := fun r => some (.int r)) (so := fun _ => g) (by decide +kernel) rfl (fun h => by cases h) rfl (Nat.le_of_ble_eq_true rfl) (fun X => j_X5_valueOf x0 x1 x2 x3 g (fun _ h => h))

theorem j_X5_join_70 {X : ZX}  (s0 : Int32)  (g : ZS) {K : Int32 → Prop} (h0 : ∀ v, K v → xK X (some (.int v)) g) : J Y_X5_join X 0 0 70 [none, none, none] [.int s0] g (f_X5_join_70 s0) K := by
  unfold f_X5_join_70
  exact J_reti (show Dc Y_X5_join 70 (.ireturn) 1 71 from ⟨by decide +kernel, rfl⟩) rfl (h0 _) (by decide) (by decide)

theorem j_X5_join_81 {X : ZX}  (s0 : Int32)  (g : ZS) {K : Int32 → Prop} (h0 : ∀ v, K v → xK X (some (.int v)) g) : J Y_X5_join X 0 0 81 [none, none, none] [.int s0] g (f_X5_join_81 s0) K := by
  unfold f_X5_join_81
  exact J_reti (show Dc Y_X5_join 81 (.ireturn) 1 82 from ⟨by decide +kernel, rfl⟩) rfl (h0 _) (by decide) (by decide)

theorem j_X5_join_92 {X : ZX}  (s0 : Int32)  (g : ZS) {K : Int32 → Prop} (h0 : ∀ v, K v → xK X (some (.int v)) g) : J Y_X5_join X 0 0 92 [none, none, none] [.int s0] g (f_X5_join_92 s0) K := by
  unfold f_X5_join_92
  exact J_reti (show Dc Y_X5_join 92 (.ireturn) 1 93 from ⟨by decide +kernel, rfl⟩) rfl (h0 _) (by decide) (by decide)

theorem j_X5_join_116 {X : ZX}  (s0 : Int32)  (g : ZS) {K : Int32 → Prop} (h0 : ∀ v, K v → xK X (some (.int v)) g) : J Y_X5_join X 0 0 116 [none, none, none] [.int s0] g (f_X5_join_116 s0) K := by
  unfold f_X5_join_116
  exact J_reti (show Dc Y_X5_join 116 (.ireturn) 1 117 from ⟨by decide +kernel, rfl⟩) rfl (h0 _) (by decide) (by decide)

theorem j_X5_join {X : ZX} (x0 : Int32) (x1 : Int32) (x2 : Int32)   (g : ZS) {K : Int32 → Prop} (h0 : ∀ v, K v → xK X (some (.int v)) g) : J Y_X5_join X 0 0 0 [some (.int x0), some (.int x1), some (.int x2)] [] g (f_X5_join x0 x1 x2) K := by
  unfold f_X5_join
  refine J_iload_n rfl rfl (show Dc Y_X5_join 0 (.iload_n 0) 1 1 from ⟨by decide +kernel, rfl⟩) ?_
  refine J_lsw (tgd := 105) [((42 : Int32), 101, _), ((43 : Int32), 93, _), ((45 : Int32), 97, _), ((60 : Int32), 60, _), ((61 : Int32), 82, _), ((62 : Int32), 71, _)] (show Dc Y_X5_join 1 (.lookupswitch 104 #[(42, 100), (43, 92), (45, 96), (60, 59), (61, 81), (62, 70)]) 59 60 from ⟨by decide +kernel, rfl⟩) (by decide) (by simp only [List.map_cons, List.map_nil]; decide +kernel) (by decide) ?_ ?_
  · refine List.forall_mem_cons.mpr ⟨?_, List.forall_mem_cons.mpr ⟨?_, List.forall_mem_cons.mpr ⟨?_, List.forall_mem_cons.mpr ⟨?_, List.forall_mem_cons.mpr ⟨?_, List.forall_mem_cons.mpr ⟨?_, fun _ h => absurd h List.not_mem_nil⟩⟩⟩⟩⟩⟩
    · refine J_iload_n rfl rfl (show Dc Y_X5_join 101 (.iload_n 1) 1 102 from ⟨by decide +kernel, rfl⟩) ?_
      refine J_iload_n rfl rfl (show Dc Y_X5_join 102 (.iload_n 2) 1 103 from ⟨by decide +kernel, rfl⟩) ?_
      refine J_imul (show Dc Y_X5_join 103 (.imul) 1 104 from ⟨by decide +kernel, rfl⟩) ?_
      exact J_reti (show Dc Y_X5_join 104 (.ireturn) 1 105 from ⟨by decide +kernel, rfl⟩) rfl (h0 _) (by decide) (by decide)
    · refine J_iload_n rfl rfl (show Dc Y_X5_join 93 (.iload_n 1) 1 94 from ⟨by decide +kernel, rfl⟩) ?_
      refine J_iload_n rfl rfl (show Dc Y_X5_join 94 (.iload_n 2) 1 95 from ⟨by decide +kernel, rfl⟩) ?_
      refine J_iadd (show Dc Y_X5_join 95 (.iadd) 1 96 from ⟨by decide +kernel, rfl⟩) ?_
      exact J_reti (show Dc Y_X5_join 96 (.ireturn) 1 97 from ⟨by decide +kernel, rfl⟩) rfl (h0 _) (by decide) (by decide)
    · refine J_iload_n rfl rfl (show Dc Y_X5_join 97 (.iload_n 1) 1 98 from ⟨by decide +kernel, rfl⟩) ?_
      refine J_iload_n rfl rfl (show Dc Y_X5_join 98 (.iload_n 2) 1 99 from ⟨by decide +kernel, rfl⟩) ?_
      refine J_isub (show Dc Y_X5_join 99 (.isub) 1 100 from ⟨by decide +kernel, rfl⟩) ?_
      exact J_reti (show Dc Y_X5_join 100 (.ireturn) 1 101 from ⟨by decide +kernel, rfl⟩) rfl (h0 _) (by decide) (by decide)
    · refine J_iload_n rfl rfl (show Dc Y_X5_join 60 (.iload_n 1) 1 61 from ⟨by decide +kernel, rfl⟩) ?_
      refine J_iload_n rfl rfl (show Dc Y_X5_join 61 (.iload_n 2) 1 62 from ⟨by decide +kernel, rfl⟩) ?_
      refine J_icmp_ge (tg := 69) (show Dc Y_X5_join 62 (.if_icmp .ge 7) 3 65 from ⟨by decide +kernel, rfl⟩) (by decide) (fun h => ?_) (fun h => ?_)
      · refine J_iconst (0 : Int32) rfl (show Dc Y_X5_join 69 (.iconst 0) 1 70 from ⟨by decide +kernel, rfl⟩) ?_
        refine J_mask [false, false, false] ?_
        exact j_X5_join_70 (0 : Int32) g h0
      · refine J_iconst (1 : Int32) rfl (show Dc Y_X5_join 65 (.iconst 1) 1 66 from ⟨by decide +kernel, rfl⟩) ?_
        refine J_goto (tg := 70) (show Dc Y_X5_join 66 (.goto 4) 3 69 from ⟨by decide +kernel, rfl⟩) (by decide) ?_
        refine J_mask [false, false, false] ?_
        exact j_X5_join_70 (1 : Int32) g h0
    · refine J_iload_n rfl rfl (show Dc Y_X5_join 82 (.iload_n 1) 1 83 from ⟨by decide +kernel, rfl⟩) ?_
      refine J_iload_n rfl rfl (show Dc Y_X5_join 83 (.iload_n 2) 1 84 from ⟨by decide +kernel, rfl⟩) ?_
      refine J_icmp_ne (tg := 91) (show Dc Y_X5_join 84 (.if_icmp .ne 7) 3 87 from ⟨by decide +kernel, rfl⟩) (by decide) (fun h => ?_) (fun h => ?_)
      · refine J_iconst (0 : Int32) rfl (show Dc Y_X5_join 91 (.iconst 0) 1 92 from ⟨by decide +kernel, rfl⟩) ?_
        refine J_mask [false, false, false] ?_
        exact j_X5_join_92 (0 : Int32) g h0
      · refine J_iconst (1 : Int32) rfl (show Dc Y_X5_join 87 (.iconst 1) 1 88 from ⟨by decide +kernel, rfl⟩) ?_
        refine J_goto (tg := 92) (show Dc Y_X5_join 88 (.goto 4) 3 91 from ⟨by decide +kernel, rfl⟩) (by decide) ?_
        refine J_mask [false, false, false] ?_
        exact j_X5_join_92 (1 : Int32) g h0
    · refine J_iload_n rfl rfl (show Dc Y_X5_join 71 (.iload_n 1) 1 72 from ⟨by decide +kernel, rfl⟩) ?_
      refine J_iload_n rfl rfl (show Dc Y_X5_join 72 (.iload_n 2) 1 73 from ⟨by decide +kernel, rfl⟩) ?_
      refine J_icmp_le (tg := 80) (show Dc Y_X5_join 73 (.if_icmp .le 7) 3 76 from ⟨by decide +kernel, rfl⟩) (by decide) (fun h => ?_) (fun h => ?_)
      · refine J_iconst (0 : Int32) rfl (show Dc Y_X5_join 80 (.iconst 0) 1 81 from ⟨by decide +kernel, rfl⟩) ?_
        refine J_mask [false, false, false] ?_
        exact j_X5_join_81 (0 : Int32) g h0
      · refine J_iconst (1 : Int32) rfl (show Dc Y_X5_join 76 (.iconst 1) 1 77 from ⟨by decide +kernel, rfl⟩) ?_
        refine J_goto (tg := 81) (show Dc Y_X5_join 77 (.goto 4) 3 80 from ⟨by decide +kernel, rfl⟩) (by decide) ?_
        refine J_mask [false, false, false] ?_
        exact j_X5_join_81 (1 : Int32) g h0
  · refine J_iload_n rfl rfl (show Dc Y_X5_join 105 (.iload_n 2) 1 106 from ⟨by decide +kernel, rfl⟩) ?_
    refine J_if_ne (tg := 113) (show Dc Y_X5_join 106 (.ifCond .ne 7) 3 109 from ⟨by decide +kernel, rfl⟩) (by decide) (fun h => ?_) (fun h => ?_)
    · refine J_iload_n rfl rfl (show Dc Y_X5_join 113 (.iload_n 1) 1 114 from ⟨by decide +kernel, rfl⟩) ?_
      refine J_iload_n rfl rfl (show Dc Y_X5_join 114 (.iload_n 2) 1 115 from ⟨by decide +kernel, rfl⟩) ?_
      refine J_idiv (show Dc Y_X5_join 115 (.idiv) 1 116 from ⟨by decide +kernel, rfl⟩) ?_
      refine J_mask [false, false, false] ?_
      exact j_X5_join_116 (x1 / x2) g h0
    · refine J_iconst (0 : Int32) rfl (show Dc Y_X5_join 109 (.iconst 0) 1 110 from ⟨by decide +kernel, rfl⟩) ?_
      refine J_goto (tg := 116) (show Dc Y_X5_join 110 (.goto 6) 3 113 from ⟨by decide +kernel, rfl⟩) (by decide) ?_
      refine J_mask [false, false, false] ?_
      exact j_X5_join_116 (0 : Int32) g h0

theorem c_X5_join {l : Launch} {D : ZD} {B0 : Nat} (x0 : Int32) (x1 : Int32) (x2 : Int32) (g : ZS) : ∀ r, f_X5_join x0 x1 x2 = some r → zCt l D B0 yX5_join Y_X5_join [.int x0, .int x1, .int x2] g (some (.int r)) g :=
  zCt_ofF (vo := fun r => some (.int r)) (so := fun _ => g) (by decide +kernel) rfl (fun h => by cases h) rfl (Nat.le_of_ble_eq_true rfl) (fun X => j_X5_join x0 x1 x2 g (fun _ h => h))
