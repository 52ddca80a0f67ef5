def f_L_law_1673 (N : Nat) (x0 : Nat) (x1 : Nat) (x2 : Nat) (x3 : Nat) (x4 : Int32)  (g : ZS) : Option ((Int32 × ZS) ⊕ (Int32 × ZS)) :=
  zcap x4 <|
  some (.inl (x4 + (5 : Int32), g))

def f_L_law_248 (N : Nat) (x0 : Nat) (x1 : Nat) (x2 : Nat) (x3 : Nat) (x4 : Int32)  (g : ZS) : Option ((Int32 × ZS) ⊕ (Int32 × ZS)) :=
  zcap x4 <|
  (zald 28 g x0 (x4 + (1 : Int32))).bind fun v1 =>
  zvs g x1 11 <| (f_X11_sign N x1 v1 g).bind fun r2 =>
  (zald 28 r2.2 x0 (x4 + (1 : Int32))).bind fun v3 =>
  zvs r2.2 x2 12 <| (f_X12_sign N x2 v3 r2.2).bind fun r4 =>
  if r2.1 = r4.1 then
    f_L_law_1673 N x0 x1 x2 x3 x4 r4.2
  else
    (
      some ((0 : Int32), r4.2)).map Sum.inr

def f_L_law_273 (N : Nat) (x0 : Nat) (x1 : Nat) (x2 : Nat) (x3 : Nat) (x4 : Int32)  (g : ZS) : Option ((Int32 × ZS) ⊕ (Int32 × ZS)) :=
  zcap x4 <|
  (zald 28 g x0 (x4 + (1 : Int32))).bind fun v1 =>
  zvs g x1 11 <| (f_X11_end x1 v1 g).bind fun r2 =>
  (zald 28 r2.2 x0 (x4 + (1 : Int32))).bind fun v3 =>
  zvs r2.2 x2 12 <| (f_X12_end x2 v3 r2.2).bind fun r4 =>
  if r2.1 = r4.1 then
    f_L_law_1673 N x0 x1 x2 x3 x4 r4.2
  else
    (
      some ((0 : Int32), r4.2)).map Sum.inr

def f_L_law_298 (N : Nat) (x0 : Nat) (x1 : Nat) (x2 : Nat) (x3 : Nat) (x4 : Int32)  (g : ZS) : Option ((Int32 × ZS) ⊕ (Int32 × ZS)) :=
  zcap x4 <|
  (zald 28 g x0 (x4 + (1 : Int32))).bind fun v1 =>
  zvs g x1 11 <| (f_X11_house N x1 v1 g).bind fun r2 =>
  (zald 28 r2.2 x0 (x4 + (1 : Int32))).bind fun v3 =>
  zvs r2.2 x2 12 <| (f_X12_house N x2 v3 r2.2).bind fun r4 =>
  if r2.1 = r4.1 then
    f_L_law_1673 N x0 x1 x2 x3 x4 r4.2
  else
    (
      some ((0 : Int32), r4.2)).map Sum.inr

def f_L_law_323 (N : Nat) (x0 : Nat) (x1 : Nat) (x2 : Nat) (x3 : Nat) (x4 : Int32)  (g : ZS) : Option ((Int32 × ZS) ⊕ (Int32 × ZS)) :=
  zcap x4 <|
  zvs g x1 11 <| (f_X11_parrots N x1 g).bind fun r1 =>
  zvs r1.2 x2 12 <| (f_X12_parrots N x2 r1.2).bind fun r2 =>
  if r1.1 = r2.1 then
    f_L_law_1673 N x0 x1 x2 x3 x4 r2.2
  else
    (
      some ((0 : Int32), r2.2)).map Sum.inr

def f_L_law_336 (N : Nat) (x0 : Nat) (x1 : Nat) (x2 : Nat) (x3 : Nat) (x4 : Int32)  (g : ZS) : Option ((Int32 × ZS) ⊕ (Int32 × ZS)) :=
  zcap x4 <|
  zvs g x1 11 <| (f_X11_worths N x1 g).bind fun r1 =>
  zvs r1.2 x2 12 <| (f_X12_worths N x2 r1.2).bind fun r2 =>
  if r1.1 = r2.1 then
    f_L_law_1673 N x0 x1 x2 x3 x4 r2.2
  else
    (
      some ((0 : Int32), r2.2)).map Sum.inr

def f_L_law_349 (N : Nat) (x0 : Nat) (x1 : Nat) (x2 : Nat) (x3 : Nat) (x4 : Int32)  (g : ZS) : Option ((Int32 × ZS) ⊕ (Int32 × ZS)) :=
  zcap x4 <|
  zvs g x1 11 <| (f_X11_rule N x1 g).bind fun r1 =>
  zvs r1.2 x2 12 <| (f_X12_rule N x2 r1.2).bind fun r2 =>
  if r1.1 = r2.1 then
    f_L_law_1673 N x0 x1 x2 x3 x4 r2.2
  else
    (
      some ((0 : Int32), r2.2)).map Sum.inr

def f_L_law_427 (N : Nat) (x0 : Nat) (x1 : Nat) (x2 : Nat) (x3 : Nat) (x4 : Int32)  (g : ZS) : Option ((Int32 × ZS) ⊕ (Int32 × ZS)) :=
  f_L_law_1673 N x0 x1 x2 x3 x4 g

def f_L_law_362 (N : Nat) (x0 : Nat) (x1 : Nat) (x2 : Nat) (x3 : Nat) (x4 : Int32)  (g : ZS) : Option ((Int32 × ZS) ⊕ (Int32 × ZS)) :=
  zcap x4 <|
  (zald 28 g x0 (x4 + (1 : Int32))).bind fun v1 =>
  (zald 28 g x0 (x4 + (2 : Int32))).bind fun v2 =>
  (f_L_parrot N x1 v1 v2 x3 g).bind fun r3 =>
  (zald 28 r3.2 x0 (x4 + (1 : Int32))).bind fun v4 =>
  (zald 28 r3.2 x0 (x4 + (2 : Int32))).bind fun v5 =>
  zvs r3.2 x2 12 <| (f_X12_parrot N x2 v4 v5 r3.2).bind fun r6 =>
  zvs r6.2 x2 12 <| (f_X12_thrown x2 r6.2).bind fun v7 =>
  if v7 = r3.1 then
    if r3.1 = 0 then
      (zlald r6.2 x3 (0 : Int32)).bind fun v8 =>
      if (lg_cmp v8 r6.1.toInt64) = 0 then
        f_L_law_427 N x0 x1 x2 x3 x4 r6.2
      else
        (
          some ((0 : Int32), r6.2)).map Sum.inr
    else
      f_L_law_427 N x0 x1 x2 x3 x4 r6.2
  else
    (
      some ((0 : Int32), r6.2)).map Sum.inr

def f_L_law_507 (N : Nat) (x0 : Nat) (x1 : Nat) (x2 : Nat) (x3 : Nat) (x4 : Int32)  (g : ZS) : Option ((Int32 × ZS) ⊕ (Int32 × ZS)) :=
  f_L_law_1673 N x0 x1 x2 x3 x4 g

def f_L_law_430 (N : Nat) (x0 : Nat) (x1 : Nat) (x2 : Nat) (x3 : Nat) (x4 : Int32)  (g : ZS) : Option ((Int32 × ZS) ⊕ (Int32 × ZS)) :=
  zcap x4 <|
  (zald 28 g x0 (x4 + (1 : Int32))).bind fun v1 =>
  (zald 28 g x0 (x4 + (2 : Int32))).bind fun v2 =>
  (zald 28 g x0 (x4 + (3 : Int32))).bind fun v3 =>
  (f_L_word N x1 v1 v2 v3 x3 g).bind fun r4 =>
  (zald 28 r4.2 x0 (x4 + (1 : Int32))).bind fun v5 =>
  (zald 28 r4.2 x0 (x4 + (2 : Int32))).bind fun v6 =>
  (zald 28 r4.2 x0 (x4 + (3 : Int32))).bind fun v7 =>
  zvs r4.2 x2 12 <| (f_X12_word N x2 v5 v6 v7 r4.2).bind fun r8 =>
  zvs r8.2 x2 12 <| (f_X12_thrown x2 r8.2).bind fun v9 =>
  if v9 = r4.1 then
    if r4.1 = 0 then
      (zlald r8.2 x3 (0 : Int32)).bind fun v10 =>
      if (lg_cmp v10 r8.1.toInt64) = 0 then
        f_L_law_507 N x0 x1 x2 x3 x4 r8.2
      else
        (
          some ((0 : Int32), r8.2)).map Sum.inr
    else
      f_L_law_507 N x0 x1 x2 x3 x4 r8.2
  else
    (
      some ((0 : Int32), r8.2)).map Sum.inr

def f_L_law_510 (N : Nat) (x0 : Nat) (x1 : Nat) (x2 : Nat) (x3 : Nat) (x4 : Int32)  (g : ZS) : Option ((Int32 × ZS) ⊕ (Int32 × ZS)) :=
  zcap x4 <|
  (zald 28 g x0 (x4 + (1 : Int32))).bind fun v1 =>
  (zald 28 g x0 (x4 + (2 : Int32))).bind fun v2 =>
  zvs g x1 11 <| (f_X11_said x1 v1 v2 g).bind fun v3 =>
  (zald 28 g x0 (x4 + (1 : Int32))).bind fun v4 =>
  (zald 28 g x0 (x4 + (2 : Int32))).bind fun v5 =>
  zvs g x2 12 <| (f_X12_said x2 v4 v5 g).bind fun r6 =>
  if v3 = r6.1 then
    f_L_law_1673 N x0 x1 x2 x3 x4 r6.2
  else
    (
      some ((0 : Int32), r6.2)).map Sum.inr

def f_L_law_547 (N : Nat) (x0 : Nat) (x1 : Nat) (x2 : Nat) (x3 : Nat) (x4 : Int32)  (g : ZS) : Option ((Int32 × ZS) ⊕ (Int32 × ZS)) :=
  zcap x4 <|
  (zald 28 g x0 (x4 + (1 : Int32))).bind fun v1 =>
  (zald 28 g x0 (x4 + (2 : Int32))).bind fun v2 =>
  (zald 28 g x0 (x4 + (3 : Int32))).bind fun v3 =>
  (zald 28 g x0 (x4 + (4 : Int32))).bind fun v4 =>
  zvs g x1 11 <| (f_X11_sheet N x1 v1 v2 v3 v4 g).bind fun r5 =>
  (zald 28 r5.2 x0 (x4 + (1 : Int32))).bind fun v6 =>
  (zald 28 r5.2 x0 (x4 + (2 : Int32))).bind fun v7 =>
  (zald 28 r5.2 x0 (x4 + (3 : Int32))).bind fun v8 =>
  (zald 28 r5.2 x0 (x4 + (4 : Int32))).bind fun v9 =>
  zvs r5.2 x2 12 <| (f_X12_sheet N x2 v6 v7 v8 v9 r5.2).bind fun r10 =>
  if r5.1 = r10.1 then
    f_L_law_1673 N x0 x1 x2 x3 x4 r10.2
  else
    (
      some ((0 : Int32), r10.2)).map Sum.inr

def f_L_law_608 (N : Nat) (x0 : Nat) (x1 : Nat) (x2 : Nat) (x3 : Nat) (x4 : Int32)  (g : ZS) : Option ((Int32 × ZS) ⊕ (Int32 × ZS)) :=
  zcap x4 <|
  (zald 28 g x0 (x4 + (1 : Int32))).bind fun v1 =>
  zvs g x1 11 <| (f_X11_days N x1 v1 g).bind fun r2 =>
  (zald 28 r2.2 x0 (x4 + (1 : Int32))).bind fun v3 =>
  zvs r2.2 x2 12 <| (f_X12_days N x2 v3 r2.2).bind fun r4 =>
  if r2.1 = r4.1 then
    f_L_law_1673 N x0 x1 x2 x3 x4 r4.2
  else
    (
      some ((0 : Int32), r4.2)).map Sum.inr

def f_L_law_633 (N : Nat) (x0 : Nat) (x1 : Nat) (x2 : Nat) (x3 : Nat) (x4 : Int32)  (g : ZS) : Option ((Int32 × ZS) ⊕ (Int32 × ZS)) :=
  zcap x4 <|
  (zald 28 g x0 (x4 + (1 : Int32))).bind fun v1 =>
  (zald 28 g x0 (x4 + (2 : Int32))).bind fun v2 =>
  zvs g x1 11 <| (f_X11_move N x1 v1 v2 g).bind fun r3 =>
  (zald 28 r3.2 x0 (x4 + (1 : Int32))).bind fun v4 =>
  (zald 28 r3.2 x0 (x4 + (2 : Int32))).bind fun v5 =>
  zvs r3.2 x2 12 <| (f_X12_move N x2 v4 v5 r3.2).bind fun r6 =>
  if r3.1 = r6.1 then
    f_L_law_1673 N x0 x1 x2 x3 x4 r6.2
  else
    (
      some ((0 : Int32), r6.2)).map Sum.inr

def f_L_law_670 (N : Nat) (x0 : Nat) (x1 : Nat) (x2 : Nat) (x3 : Nat) (x4 : Int32)  (g : ZS) : Option ((Int32 × ZS) ⊕ (Int32 × ZS)) :=
  zcap x4 <|
  (zald 28 g x0 (x4 + (1 : Int32))).bind fun v1 =>
  zvs g x1 11 <| (f_X11_cloth N x1 v1 g).bind fun r2 =>
  (zald 28 r2.2 x0 (x4 + (1 : Int32))).bind fun v3 =>
  zvs r2.2 x2 12 <| (f_X12_cloth N x2 v3 r2.2).bind fun r4 =>
  if r2.1 = r4.1 then
    f_L_law_1673 N x0 x1 x2 x3 x4 r4.2
  else
    (
      some ((0 : Int32), r4.2)).map Sum.inr

def f_L_law_695 (N : Nat) (x0 : Nat) (x1 : Nat) (x2 : Nat) (x3 : Nat) (x4 : Int32)  (g : ZS) : Option ((Int32 × ZS) ⊕ (Int32 × ZS)) :=
  zcap x4 <|
  (zald 28 g x0 (x4 + (1 : Int32))).bind fun v1 =>
  (zald 28 g x0 (x4 + (2 : Int32))).bind fun v2 =>
  zvs g x1 11 <| (f_X11_teach N x1 v1 v2 g).bind fun r3 =>
  (zald 28 r3.2 x0 (x4 + (1 : Int32))).bind fun v4 =>
  (zald 28 r3.2 x0 (x4 + (2 : Int32))).bind fun v5 =>
  zvs r3.2 x2 12 <| (f_X12_teach N x2 v4 v5 r3.2).bind fun r6 =>
  if r3.1 = r6.1 then
    f_L_law_1673 N x0 x1 x2 x3 x4 r6.2
  else
    (
      some ((0 : Int32), r6.2)).map Sum.inr

def f_L_law_732 (N : Nat) (x0 : Nat) (x1 : Nat) (x2 : Nat) (x3 : Nat) (x4 : Int32)  (g : ZS) : Option ((Int32 × ZS) ⊕ (Int32 × ZS)) :=
  zcap x4 <|
  (zald 28 g x0 (x4 + (1 : Int32))).bind fun v1 =>
  zvs g x1 11 <| (f_X11_speak N x1 v1 g).bind fun r2 =>
  (zald 28 r2.2 x0 (x4 + (1 : Int32))).bind fun v3 =>
  zvs r2.2 x2 12 <| (f_X12_speak N x2 v3 r2.2).bind fun r4 =>
  if r2.1 = r4.1 then
    f_L_law_1673 N x0 x1 x2 x3 x4 r4.2
  else
    (
      some ((0 : Int32), r4.2)).map Sum.inr

def f_L_law_757 (N : Nat) (x0 : Nat) (x1 : Nat) (x2 : Nat) (x3 : Nat) (x4 : Int32)  (g : ZS) : Option ((Int32 × ZS) ⊕ (Int32 × ZS)) :=
  zcap x4 <|
  zvs g x1 11 <| (f_X11_hush N x1 g).bind fun r1 =>
  zvs r1.2 x2 12 <| (f_X12_hush N x2 r1.2).bind fun r2 =>
  if r1.1 = r2.1 then
    f_L_law_1673 N x0 x1 x2 x3 x4 r2.2
  else
    (
      some ((0 : Int32), r2.2)).map Sum.inr

def f_L_law_770 (N : Nat) (x0 : Nat) (x1 : Nat) (x2 : Nat) (x3 : Nat) (x4 : Int32)  (g : ZS) : Option ((Int32 × ZS) ⊕ (Int32 × ZS)) :=
  zcap x4 <|
  zvs g x1 11 <| (f_X11_trial N x1 g).bind fun r1 =>
  zvs r1.2 x2 12 <| (f_X12_trial N x2 r1.2).bind fun r2 =>
  if r1.1 = r2.1 then
    f_L_law_1673 N x0 x1 x2 x3 x4 r2.2
  else
    (
      some ((0 : Int32), r2.2)).map Sum.inr

def f_L_law_783 (N : Nat) (x0 : Nat) (x1 : Nat) (x2 : Nat) (x3 : Nat) (x4 : Int32)  (g : ZS) : Option ((Int32 × ZS) ⊕ (Int32 × ZS)) :=
  zcap x4 <|
  zvs g x1 11 <| (f_X11_undo N x1 g).bind fun r1 =>
  zvs r1.2 x2 12 <| (f_X12_undo N x2 r1.2).bind fun r2 =>
  if r1.1 = r2.1 then
    f_L_law_1673 N x0 x1 x2 x3 x4 r2.2
  else
    (
      some ((0 : Int32), r2.2)).map Sum.inr

def f_L_law_796 (N : Nat) (x0 : Nat) (x1 : Nat) (x2 : Nat) (x3 : Nat) (x4 : Int32)  (g : ZS) : Option ((Int32 × ZS) ⊕ (Int32 × ZS)) :=
  zcap x4 <|
  (zald 28 g x0 (x4 + (1 : Int32))).bind fun v1 =>
  zvs g x1 11 <| (f_X11_says N x1 v1 g).bind fun r2 =>
  (zald 28 r2.2 x0 (x4 + (1 : Int32))).bind fun v3 =>
  zvs r2.2 x2 12 <| (f_X12_says N x2 v3 r2.2).bind fun r4 =>
  if r2.1 = r4.1 then
    f_L_law_1673 N x0 x1 x2 x3 x4 r4.2
  else
    (
      some ((0 : Int32), r4.2)).map Sum.inr

def f_L_law_821 (N : Nat) (x0 : Nat) (x1 : Nat) (x2 : Nat) (x3 : Nat) (x4 : Int32)  (g : ZS) : Option ((Int32 × ZS) ⊕ (Int32 × ZS)) :=
  zcap x4 <|
  (zald 28 g x0 (x4 + (1 : Int32))).bind fun v1 =>
  (zald 28 g x0 (x4 + (2 : Int32))).bind fun v2 =>
  zvs g x1 11 <| (f_X11_place N x1 v1 v2 g).bind fun r3 =>
  (zald 28 r3.2 x0 (x4 + (1 : Int32))).bind fun v4 =>
  (zald 28 r3.2 x0 (x4 + (2 : Int32))).bind fun v5 =>
  zvs r3.2 x2 12 <| (f_X12_place N x2 v4 v5 r3.2).bind fun r6 =>
  if r3.1 = r6.1 then
    f_L_law_1673 N x0 x1 x2 x3 x4 r6.2
  else
    (
      some ((0 : Int32), r6.2)).map Sum.inr

def f_L_law_858 (N : Nat) (x0 : Nat) (x1 : Nat) (x2 : Nat) (x3 : Nat) (x4 : Int32)  (g : ZS) : Option ((Int32 × ZS) ⊕ (Int32 × ZS)) :=
  zcap x4 <|
  (zald 28 g x0 (x4 + (1 : Int32))).bind fun v1 =>
  zvs g x1 11 <| (f_X11_soonest N x1 v1 g).bind fun r2 =>
  (zald 28 r2.2 x0 (x4 + (1 : Int32))).bind fun v3 =>
  zvs r2.2 x2 12 <| (f_X12_soonest N x2 v3 r2.2).bind fun r4 =>
  if r2.1 = r4.1 then
    f_L_law_1673 N x0 x1 x2 x3 x4 r4.2
  else
    (
      some ((0 : Int32), r4.2)).map Sum.inr

def f_L_law_883 (N : Nat) (x0 : Nat) (x1 : Nat) (x2 : Nat) (x3 : Nat) (x4 : Int32)  (g : ZS) : Option ((Int32 × ZS) ⊕ (Int32 × ZS)) :=
  zcap x4 <|
  zvs g x1 11 <| (f_X11_unsaid N x1 g).bind fun r1 =>
  zvs r1.2 x2 12 <| (f_X12_unsaid N x2 r1.2).bind fun r2 =>
  if r1.1 = r2.1 then
    f_L_law_1673 N x0 x1 x2 x3 x4 r2.2
  else
    (
      some ((0 : Int32), r2.2)).map Sum.inr

def f_L_law_896 (N : Nat) (x0 : Nat) (x1 : Nat) (x2 : Nat) (x3 : Nat) (x4 : Int32)  (g : ZS) : Option ((Int32 × ZS) ⊕ (Int32 × ZS)) :=
  zcap x4 <|
  (zald 28 g x0 (x4 + (1 : Int32))).bind fun v1 =>
  (zald 28 g x0 (x4 + (2 : Int32))).bind fun v2 =>
  zvs g x1 11 <| (f_X11_later N x1 v1 v2 g).bind fun r3 =>
  (zald 28 r3.2 x0 (x4 + (1 : Int32))).bind fun v4 =>
  (zald 28 r3.2 x0 (x4 + (2 : Int32))).bind fun v5 =>
  zvs r3.2 x2 12 <| (f_X12_later N x2 v4 v5 r3.2).bind fun r6 =>
  if r3.1 = r6.1 then
    f_L_law_1673 N x0 x1 x2 x3 x4 r6.2
  else
    (
      some ((0 : Int32), r6.2)).map Sum.inr

def f_L_law_933 (N : Nat) (x0 : Nat) (x1 : Nat) (x2 : Nat) (x3 : Nat) (x4 : Int32)  (g : ZS) : Option ((Int32 × ZS) ⊕ (Int32 × ZS)) :=
  zcap x4 <|
  (zald 28 g x0 (x4 + (1 : Int32))).bind fun v1 =>
  zvs g x1 11 <| (f_X11_alters N x1 v1 g).bind fun r2 =>
  (zald 28 r2.2 x0 (x4 + (1 : Int32))).bind fun v3 =>
  zvs r2.2 x2 12 <| (f_X12_alters N x2 v3 r2.2).bind fun r4 =>
  if r2.1 = r4.1 then
    f_L_law_1673 N x0 x1 x2 x3 x4 r4.2
  else
    (
      some ((0 : Int32), r4.2)).map Sum.inr

def f_L_law_958 (N : Nat) (x0 : Nat) (x1 : Nat) (x2 : Nat) (x3 : Nat) (x4 : Int32)  (g : ZS) : Option ((Int32 × ZS) ⊕ (Int32 × ZS)) :=
  zcap x4 <|
  (zald 28 g x0 (x4 + (1 : Int32))).bind fun v1 =>
  (zald 28 g x0 (x4 + (2 : Int32))).bind fun v2 =>
  zvs g x1 11 <| (f_X11_crackers N x1 v1 v2 g).bind fun r3 =>
  (zald 28 r3.2 x0 (x4 + (1 : Int32))).bind fun v4 =>
  (zald 28 r3.2 x0 (x4 + (2 : Int32))).bind fun v5 =>
  zvs r3.2 x2 12 <| (f_X12_crackers N x2 v4 v5 r3.2).bind fun r6 =>
  if r3.1 = r6.1 then
    f_L_law_1673 N x0 x1 x2 x3 x4 r6.2
  else
    (
      some ((0 : Int32), r6.2)).map Sum.inr

def f_L_law_995 (N : Nat) (x0 : Nat) (x1 : Nat) (x2 : Nat) (x3 : Nat) (x4 : Int32)  (g : ZS) : Option ((Int32 × ZS) ⊕ (Int32 × ZS)) :=
  zcap x4 <|
  (zald 28 g x0 (x4 + (1 : Int32))).bind fun v1 =>
  (zald 28 g x0 (x4 + (2 : Int32))).bind fun v2 =>
  (zald 28 g x0 (x4 + (3 : Int32))).bind fun v3 =>
  zvs g x1 11 <| (f_X11_stay N x1 v1 v2 v3 g).bind fun r4 =>
  (zald 28 r4.2 x0 (x4 + (1 : Int32))).bind fun v5 =>
  (zald 28 r4.2 x0 (x4 + (2 : Int32))).bind fun v6 =>
  (zald 28 r4.2 x0 (x4 + (3 : Int32))).bind fun v7 =>
  zvs r4.2 x2 12 <| (f_X12_stay N x2 v5 v6 v7 r4.2).bind fun r8 =>
  if r4.1 = r8.1 then
    f_L_law_1673 N x0 x1 x2 x3 x4 r8.2
  else
    (
      some ((0 : Int32), r8.2)).map Sum.inr

def f_L_law_1044 (N : Nat) (x0 : Nat) (x1 : Nat) (x2 : Nat) (x3 : Nat) (x4 : Int32)  (g : ZS) : Option ((Int32 × ZS) ⊕ (Int32 × ZS)) :=
  zcap x4 <|
  (zald 28 g x0 (x4 + (1 : Int32))).bind fun v1 =>
  (zald 28 g x0 (x4 + (2 : Int32))).bind fun v2 =>
  zvs g x1 11 <| (f_X11_hear N x1 v1 v2 g).bind fun r3 =>
  (zald 28 r3.2 x0 (x4 + (1 : Int32))).bind fun v4 =>
  (zald 28 r3.2 x0 (x4 + (2 : Int32))).bind fun v5 =>
  zvs r3.2 x2 12 <| (f_X12_hear N x2 v4 v5 r3.2).bind fun r6 =>
  if r3.1 = r6.1 then
    f_L_law_1673 N x0 x1 x2 x3 x4 r6.2
  else
    (
      some ((0 : Int32), r6.2)).map Sum.inr

def f_L_law_1081 (N : Nat) (x0 : Nat) (x1 : Nat) (x2 : Nat) (x3 : Nat) (x4 : Int32)  (g : ZS) : Option ((Int32 × ZS) ⊕ (Int32 × ZS)) :=
  zcap x4 <|
  (zald 28 g x0 (x4 + (1 : Int32))).bind fun v1 =>
  (zald 28 g x0 (x4 + (2 : Int32))).bind fun v2 =>
  zvs g x1 11 <| (f_X11_gain N x1 v1 v2 g).bind fun r3 =>
  (zald 28 r3.2 x0 (x4 + (1 : Int32))).bind fun v4 =>
  (zald 28 r3.2 x0 (x4 + (2 : Int32))).bind fun v5 =>
  zvs r3.2 x2 12 <| (f_X12_gain N x2 v4 v5 r3.2).bind fun r6 =>
  if r3.1 = r6.1 then
    f_L_law_1673 N x0 x1 x2 x3 x4 r6.2
  else
    (
      some ((0 : Int32), r6.2)).map Sum.inr

def f_L_law_1118 (N : Nat) (x0 : Nat) (x1 : Nat) (x2 : Nat) (x3 : Nat) (x4 : Int32)  (g : ZS) : Option ((Int32 × ZS) ⊕ (Int32 × ZS)) :=
  zcap x4 <|
  (zald 28 g x0 (x4 + (1 : Int32))).bind fun v1 =>
  (zald 28 g x0 (x4 + (2 : Int32))).bind fun v2 =>
  zvs g x1 11 <| (f_X11_blend N x1 v1 v2 g).bind fun r3 =>
  (zald 28 r3.2 x0 (x4 + (1 : Int32))).bind fun v4 =>
  (zald 28 r3.2 x0 (x4 + (2 : Int32))).bind fun v5 =>
  zvs r3.2 x2 12 <| (f_X12_blend N x2 v4 v5 r3.2).bind fun r6 =>
  if r3.1 = r6.1 then
    f_L_law_1673 N x0 x1 x2 x3 x4 r6.2
  else
    (
      some ((0 : Int32), r6.2)).map Sum.inr

def f_L_law_1155 (N : Nat) (x0 : Nat) (x1 : Nat) (x2 : Nat) (x3 : Nat) (x4 : Int32)  (g : ZS) : Option ((Int32 × ZS) ⊕ (Int32 × ZS)) :=
  zcap x4 <|
  zvs g x1 11 <| (f_X11_source N x1 g).bind fun r1 =>
  zvs r1.2 x2 12 <| (f_X12_source N x2 r1.2).bind fun r2 =>
  if r1.1 = r2.1 then
    f_L_law_1673 N x0 x1 x2 x3 x4 r2.2
  else
    (
      some ((0 : Int32), r2.2)).map Sum.inr

def f_L_law_1168 (N : Nat) (x0 : Nat) (x1 : Nat) (x2 : Nat) (x3 : Nat) (x4 : Int32)  (g : ZS) : Option ((Int32 × ZS) ⊕ (Int32 × ZS)) :=
  zcap x4 <|
  (zald 28 g x0 (x4 + (1 : Int32))).bind fun v1 =>
  (zald 28 g x0 (x4 + (2 : Int32))).bind fun v2 =>
  zvs g x1 11 <| (f_X11_alike N x1 v1 v2 g).bind fun r3 =>
  (zald 28 r3.2 x0 (x4 + (1 : Int32))).bind fun v4 =>
  (zald 28 r3.2 x0 (x4 + (2 : Int32))).bind fun v5 =>
  zvs r3.2 x2 12 <| (f_X12_alike N x2 v4 v5 r3.2).bind fun r6 =>
  if r3.1 = r6.1 then
    f_L_law_1673 N x0 x1 x2 x3 x4 r6.2
  else
    (
      some ((0 : Int32), r6.2)).map Sum.inr

def f_L_law_1205 (N : Nat) (x0 : Nat) (x1 : Nat) (x2 : Nat) (x3 : Nat) (x4 : Int32)  (g : ZS) : Option ((Int32 × ZS) ⊕ (Int32 × ZS)) :=
  zcap x4 <|
  (zald 28 g x0 (x4 + (1 : Int32))).bind fun v1 =>
  (zald 28 g x0 (x4 + (2 : Int32))).bind fun v2 =>
  zvs g x1 11 <| (f_X11_unlike N x1 v1 v2 g).bind fun r3 =>
  (zald 28 r3.2 x0 (x4 + (1 : Int32))).bind fun v4 =>
  (zald 28 r3.2 x0 (x4 + (2 : Int32))).bind fun v5 =>
  zvs r3.2 x2 12 <| (f_X12_unlike N x2 v4 v5 r3.2).bind fun r6 =>
  if r3.1 = r6.1 then
    f_L_law_1673 N x0 x1 x2 x3 x4 r6.2
  else
    (
      some ((0 : Int32), r6.2)).map Sum.inr

def f_L_law_1242 (N : Nat) (x0 : Nat) (x1 : Nat) (x2 : Nat) (x3 : Nat) (x4 : Int32)  (g : ZS) : Option ((Int32 × ZS) ⊕ (Int32 × ZS)) :=
  zcap x4 <|
  (zald 28 g x0 (x4 + (1 : Int32))).bind fun v1 =>
  (zald 28 g x0 (x4 + (2 : Int32))).bind fun v2 =>
  zvs g x1 11 <| (f_X11_before x1 v1 v2 g).bind fun r3 =>
  (zald 28 r3.2 x0 (x4 + (1 : Int32))).bind fun v4 =>
  (zald 28 r3.2 x0 (x4 + (2 : Int32))).bind fun v5 =>
  zvs r3.2 x2 12 <| (f_X12_before x2 v4 v5 r3.2).bind fun r6 =>
  if r3.1 = r6.1 then
    f_L_law_1673 N x0 x1 x2 x3 x4 r6.2
  else
    (
      some ((0 : Int32), r6.2)).map Sum.inr

def f_L_law_1279 (N : Nat) (x0 : Nat) (x1 : Nat) (x2 : Nat) (x3 : Nat) (x4 : Int32)  (g : ZS) : Option ((Int32 × ZS) ⊕ (Int32 × ZS)) :=
  zcap x4 <|
  zvs g x1 11 <| (f_X11_forget x1 g).bind fun r1 =>
  zvs r1.2 x2 12 <| (f_X12_forget x2 r1.2).bind fun r2 =>
  if r1.1 = r2.1 then
    f_L_law_1673 N x0 x1 x2 x3 x4 r2.2
  else
    (
      some ((0 : Int32), r2.2)).map Sum.inr

def f_L_law_1292 (N : Nat) (x0 : Nat) (x1 : Nat) (x2 : Nat) (x3 : Nat) (x4 : Int32)  (g : ZS) : Option ((Int32 × ZS) ⊕ (Int32 × ZS)) :=
  zcap x4 <|
  zvs g x1 11 <| (f_X11_clash N x1 g).bind fun r1 =>
  zvs r1.2 x2 12 <| (f_X12_clash N x2 r1.2).bind fun r2 =>
  if r1.1 = r2.1 then
    f_L_law_1673 N x0 x1 x2 x3 x4 r2.2
  else
    (
      some ((0 : Int32), r2.2)).map Sum.inr

def f_L_law_1305 (N : Nat) (x0 : Nat) (x1 : Nat) (x2 : Nat) (x3 : Nat) (x4 : Int32)  (g : ZS) : Option ((Int32 × ZS) ⊕ (Int32 × ZS)) :=
  zcap x4 <|
  zvs g x1 11 <| (f_X11_drop N x1 g).bind fun r1 =>
  zvs r1.2 x2 12 <| (f_X12_drop N x2 r1.2).bind fun r2 =>
  if r1.1 = r2.1 then
    f_L_law_1673 N x0 x1 x2 x3 x4 r2.2
  else
    (
      some ((0 : Int32), r2.2)).map Sum.inr

def f_L_law_1318 (N : Nat) (x0 : Nat) (x1 : Nat) (x2 : Nat) (x3 : Nat) (x4 : Int32)  (g : ZS) : Option ((Int32 × ZS) ⊕ (Int32 × ZS)) :=
  zcap x4 <|
  (zald 28 g x0 (x4 + (1 : Int32))).bind fun v1 =>
  zvs g x1 11 <| (f_X11_counsels N x1 v1 g).bind fun r2 =>
  (zald 28 r2.2 x0 (x4 + (1 : Int32))).bind fun v3 =>
  zvs r2.2 x2 12 <| (f_X12_counsels N x2 v3 r2.2).bind fun r4 =>
  if r2.1 = r4.1 then
    f_L_law_1673 N x0 x1 x2 x3 x4 r4.2
  else
    (
      some ((0 : Int32), r4.2)).map Sum.inr

def f_L_law_1343 (N : Nat) (x0 : Nat) (x1 : Nat) (x2 : Nat) (x3 : Nat) (x4 : Int32)  (g : ZS) : Option ((Int32 × ZS) ⊕ (Int32 × ZS)) :=
  zcap x4 <|
  (zald 28 g x0 (x4 + (1 : Int32))).bind fun v1 =>
  (zald 28 g x0 (x4 + (2 : Int32))).bind fun v2 =>
  (zald 28 g x0 (x4 + (3 : Int32))).bind fun v3 =>
  zvs g x1 11 <| (f_X11_sure N x1 v1 v2 v3 g).bind fun r4 =>
  (zald 28 r4.2 x0 (x4 + (1 : Int32))).bind fun v5 =>
  (zald 28 r4.2 x0 (x4 + (2 : Int32))).bind fun v6 =>
  (zald 28 r4.2 x0 (x4 + (3 : Int32))).bind fun v7 =>
  zvs r4.2 x2 12 <| (f_X12_sure N x2 v5 v6 v7 r4.2).bind fun r8 =>
  if r4.1 = r8.1 then
    f_L_law_1673 N x0 x1 x2 x3 x4 r8.2
  else
    (
      some ((0 : Int32), r8.2)).map Sum.inr

def f_L_law_1392 (N : Nat) (x0 : Nat) (x1 : Nat) (x2 : Nat) (x3 : Nat) (x4 : Int32)  (g : ZS) : Option ((Int32 × ZS) ⊕ (Int32 × ZS)) :=
  zcap x4 <|
  (zald 28 g x0 (x4 + (1 : Int32))).bind fun v1 =>
  (zald 28 g x0 (x4 + (2 : Int32))).bind fun v2 =>
  zvs g x1 11 <| (f_X11_note x1 v1 v2 g).bind fun r3 =>
  (zald 28 r3.2 x0 (x4 + (1 : Int32))).bind fun v4 =>
  (zald 28 r3.2 x0 (x4 + (2 : Int32))).bind fun v5 =>
  zvs r3.2 x2 12 <| (f_X12_note x2 v4 v5 r3.2).bind fun r6 =>
  if r3.1 = r6.1 then
    f_L_law_1673 N x0 x1 x2 x3 x4 r6.2
  else
    (
      some ((0 : Int32), r6.2)).map Sum.inr

def f_L_law_1429 (N : Nat) (x0 : Nat) (x1 : Nat) (x2 : Nat) (x3 : Nat) (x4 : Int32)  (g : ZS) : Option ((Int32 × ZS) ⊕ (Int32 × ZS)) :=
  zcap x4 <|
  zvs g x1 11 <| (f_X11_strike x1 g).bind fun r1 =>
  zvs r1.2 x2 12 <| (f_X12_strike x2 r1.2).bind fun r2 =>
  if r1.1 = r2.1 then
    f_L_law_1673 N x0 x1 x2 x3 x4 r2.2
  else
    (
      some ((0 : Int32), r2.2)).map Sum.inr

def f_L_law_1442 (N : Nat) (x0 : Nat) (x1 : Nat) (x2 : Nat) (x3 : Nat) (x4 : Int32)  (g : ZS) : Option ((Int32 × ZS) ⊕ (Int32 × ZS)) :=
  zcap x4 <|
  zvs g x1 11 <| (f_X11_fits N x1 g).bind fun r1 =>
  zvs r1.2 x2 12 <| (f_X12_fits_ N x2 r1.2).bind fun r2 =>
  if r1.1 = r2.1 then
    f_L_law_1673 N x0 x1 x2 x3 x4 r2.2
  else
    (
      some ((0 : Int32), r2.2)).map Sum.inr

def f_L_law_1455 (N : Nat) (x0 : Nat) (x1 : Nat) (x2 : Nat) (x3 : Nat) (x4 : Int32)  (g : ZS) : Option ((Int32 × ZS) ⊕ (Int32 × ZS)) :=
  zcap x4 <|
  zvs g x1 11 <| (f_X11_ask N x1 g).bind fun r1 =>
  zvs r1.2 x2 12 <| (f_X12_ask N x2 r1.2).bind fun r2 =>
  if r1.1 = r2.1 then
    f_L_law_1673 N x0 x1 x2 x3 x4 r2.2
  else
    (
      some ((0 : Int32), r2.2)).map Sum.inr

def f_L_law_1468 (N : Nat) (x0 : Nat) (x1 : Nat) (x2 : Nat) (x3 : Nat) (x4 : Int32)  (g : ZS) : Option ((Int32 × ZS) ⊕ (Int32 × ZS)) :=
  zcap x4 <|
  (zald 28 g x0 (x4 + (1 : Int32))).bind fun v1 =>
  zvs g x1 11 <| (f_X11_rests N x1 v1 g).bind fun r2 =>
  (zald 28 r2.2 x0 (x4 + (1 : Int32))).bind fun v3 =>
  zvs r2.2 x2 12 <| (f_X12_rests N x2 v3 r2.2).bind fun r4 =>
  if r2.1 = r4.1 then
    f_L_law_1673 N x0 x1 x2 x3 x4 r4.2
  else
    (
      some ((0 : Int32), r4.2)).map Sum.inr

def f_L_law_1493 (N : Nat) (x0 : Nat) (x1 : Nat) (x2 : Nat) (x3 : Nat) (x4 : Int32)  (g : ZS) : Option ((Int32 × ZS) ⊕ (Int32 × ZS)) :=
  zcap x4 <|
  zvs g x1 11 <| (f_X11_law N x1 g).bind fun r1 =>
  zvs r1.2 x2 12 <| (f_X12_law N x2 r1.2).bind fun r2 =>
  if r1.1 = r2.1 then
    f_L_law_1673 N x0 x1 x2 x3 x4 r2.2
  else
    (
      some ((0 : Int32), r2.2)).map Sum.inr

def f_L_law_1506 (N : Nat) (x0 : Nat) (x1 : Nat) (x2 : Nat) (x3 : Nat) (x4 : Int32)  (g : ZS) : Option ((Int32 × ZS) ⊕ (Int32 × ZS)) :=
  zcap x4 <|
  (zald 28 g x0 (x4 + (1 : Int32))).bind fun v1 =>
  (zald 28 g x0 (x4 + (2 : Int32))).bind fun v2 =>
  zvs g x1 11 <| (f_X11_years N x1 v1 v2 g).bind fun r3 =>
  (zald 28 r3.2 x0 (x4 + (1 : Int32))).bind fun v4 =>
  (zald 28 r3.2 x0 (x4 + (2 : Int32))).bind fun v5 =>
  zvs r3.2 x2 12 <| (f_X12_years N x2 v4 v5 r3.2).bind fun r6 =>
  if r3.1 = r6.1 then
    f_L_law_1673 N x0 x1 x2 x3 x4 r6.2
  else
    (
      some ((0 : Int32), r6.2)).map Sum.inr

def f_L_law_1543 (N : Nat) (x0 : Nat) (x1 : Nat) (x2 : Nat) (x3 : Nat) (x4 : Int32)  (g : ZS) : Option ((Int32 × ZS) ⊕ (Int32 × ZS)) :=
  zcap x4 <|
  (zald 28 g x0 (x4 + (1 : Int32))).bind fun v1 =>
  zvs g x1 11 <| (f_X11_keep N x1 v1 g).bind fun r2 =>
  (zald 28 r2.2 x0 (x4 + (1 : Int32))).bind fun v3 =>
  zvs r2.2 x2 12 <| (f_X12_keep N x2 v3 r2.2).bind fun r4 =>
  if r2.1 = r4.1 then
    f_L_law_1673 N x0 x1 x2 x3 x4 r4.2
  else
    (
      some ((0 : Int32), r4.2)).map Sum.inr

def f_L_law_1568 (N : Nat) (x0 : Nat) (x1 : Nat) (x2 : Nat) (x3 : Nat) (x4 : Int32)  (g : ZS) : Option ((Int32 × ZS) ⊕ (Int32 × ZS)) :=
  zcap x4 <|
  (zald 28 g x0 (x4 + (1 : Int32))).bind fun v1 =>
  zvs g x1 11 <| (f_X11_again N x1 v1 g).bind fun r2 =>
  (zald 28 r2.2 x0 (x4 + (1 : Int32))).bind fun v3 =>
  zvs r2.2 x2 12 <| (f_X12_again N x2 v3 r2.2).bind fun r4 =>
  if r2.1 = r4.1 then
    f_L_law_1673 N x0 x1 x2 x3 x4 r4.2
  else
    (
      some ((0 : Int32), r4.2)).map Sum.inr

def f_L_law_1593 (N : Nat) (x0 : Nat) (x1 : Nat) (x2 : Nat) (x3 : Nat) (x4 : Int32)  (g : ZS) : Option ((Int32 × ZS) ⊕ (Int32 × ZS)) :=
  zcap x4 <|
  (zald 28 g x0 (x4 + (1 : Int32))).bind fun v1 =>
  zvs g x1 11 <| (f_X11_count N x1 v1 g).bind fun v2 =>
  (zald 28 g x0 (x4 + (1 : Int32))).bind fun v3 =>
  zvs g x2 12 <| (f_X12_count N x2 v3 g).bind fun r4 =>
  if v2 = r4.1 then
    f_L_law_1673 N x0 x1 x2 x3 x4 r4.2
  else
    (
      some ((0 : Int32), r4.2)).map Sum.inr

def f_L_law_1670 (N : Nat) (x0 : Nat) (x1 : Nat) (x2 : Nat) (x3 : Nat) (x4 : Int32)  (g : ZS) : Option ((Int32 × ZS) ⊕ (Int32 × ZS)) :=
  f_L_law_1673 N x0 x1 x2 x3 x4 g

def f_L_law_1618 (N : Nat) (x0 : Nat) (x1 : Nat) (x2 : Nat) (x3 : Nat) (x4 : Int32)  (g : ZS) : Option ((Int32 × ZS) ⊕ (Int32 × ZS)) :=
  zcap x4 <|
  (zald 28 g x0 (x4 + (1 : Int32))).bind fun v1 =>
  (f_L_row N x1 v1 x3 g).bind fun r2 =>
  (zald 28 r2.2 x0 (x4 + (1 : Int32))).bind fun v3 =>
  zvs r2.2 x2 12 <| (f_X12_row x2 v3 r2.2).bind fun r4 =>
  zvs r4.2 x2 12 <| (f_X12_thrown x2 r4.2).bind fun v5 =>
  if v5 = r2.1 then
    if r2.1 = 0 then
      (zlald r4.2 x3 (0 : Int32)).bind fun v6 =>
      if (lg_cmp v6 r4.1) = 0 then
        f_L_law_1670 N x0 x1 x2 x3 x4 r4.2
      else
        (
          some ((0 : Int32), r4.2)).map Sum.inr
    else
      f_L_law_1670 N x0 x1 x2 x3 x4 r4.2
  else
    (
      some ((0 : Int32), r4.2)).map Sum.inr

def f_L_law_23 (N : Nat) (x0 : Nat) (x1 : Nat) (x2 : Nat) (x3 : Nat) (x4 : Int32)  (g : ZS) : Option ((Int32 × ZS) ⊕ (Int32 × ZS)) :=
  zcap x4 <|
  (zlen g x0 28).bind fun v1 =>
  if (v1.toInt32 - (5 : Int32)) < x4 then
    (
      some ((1 : Int32), g)).map Sum.inr
  else
    (zald 28 g x0 x4).bind fun v2 =>
    zcase (v2 &&& (63 : Int32)) [
      ((0 : Int32),
        f_L_law_248 N x0 x1 x2 x3 x4 g),
      ((1 : Int32),
        f_L_law_273 N x0 x1 x2 x3 x4 g),
      ((2 : Int32),
        f_L_law_298 N x0 x1 x2 x3 x4 g),
      ((3 : Int32),
        f_L_law_323 N x0 x1 x2 x3 x4 g),
      ((4 : Int32),
        f_L_law_336 N x0 x1 x2 x3 x4 g),
      ((5 : Int32),
        f_L_law_349 N x0 x1 x2 x3 x4 g),
      ((6 : Int32),
        f_L_law_362 N x0 x1 x2 x3 x4 g),
      ((7 : Int32),
        f_L_law_430 N x0 x1 x2 x3 x4 g),
      ((8 : Int32),
        f_L_law_510 N x0 x1 x2 x3 x4 g),
      ((9 : Int32),
        f_L_law_547 N x0 x1 x2 x3 x4 g),
      ((10 : Int32),
        f_L_law_608 N x0 x1 x2 x3 x4 g),
      ((11 : Int32),
        f_L_law_633 N x0 x1 x2 x3 x4 g),
      ((12 : Int32),
        f_L_law_670 N x0 x1 x2 x3 x4 g),
      ((13 : Int32),
        f_L_law_695 N x0 x1 x2 x3 x4 g),
      ((14 : Int32),
        f_L_law_732 N x0 x1 x2 x3 x4 g),
      ((15 : Int32),
        f_L_law_757 N x0 x1 x2 x3 x4 g),
      ((16 : Int32),
        f_L_law_770 N x0 x1 x2 x3 x4 g),
      ((17 : Int32),
        f_L_law_783 N x0 x1 x2 x3 x4 g),
      ((18 : Int32),
        f_L_law_796 N x0 x1 x2 x3 x4 g),
      ((19 : Int32),
        f_L_law_821 N x0 x1 x2 x3 x4 g),
      ((20 : Int32),
        f_L_law_858 N x0 x1 x2 x3 x4 g),
      ((21 : Int32),
        f_L_law_883 N x0 x1 x2 x3 x4 g),
      ((22 : Int32),
        f_L_law_896 N x0 x1 x2 x3 x4 g),
      ((23 : Int32),
        f_L_law_933 N x0 x1 x2 x3 x4 g),
      ((24 : Int32),
        f_L_law_958 N x0 x1 x2 x3 x4 g),
      ((25 : Int32),
        f_L_law_995 N x0 x1 x2 x3 x4 g),
      ((26 : Int32),
        f_L_law_1044 N x0 x1 x2 x3 x4 g),
      ((27 : Int32),
        f_L_law_1081 N x0 x1 x2 x3 x4 g),
      ((28 : Int32),
        f_L_law_1118 N x0 x1 x2 x3 x4 g),
      ((29 : Int32),
        f_L_law_1155 N x0 x1 x2 x3 x4 g),
      ((30 : Int32),
        f_L_law_1168 N x0 x1 x2 x3 x4 g),
      ((31 : Int32),
        f_L_law_1205 N x0 x1 x2 x3 x4 g),
      ((32 : Int32),
        f_L_law_1242 N x0 x1 x2 x3 x4 g),
      ((33 : Int32),
        f_L_law_1279 N x0 x1 x2 x3 x4 g),
      ((34 : Int32),
        f_L_law_1292 N x0 x1 x2 x3 x4 g),
      ((35 : Int32),
        f_L_law_1305 N x0 x1 x2 x3 x4 g),
      ((36 : Int32),
        f_L_law_1318 N x0 x1 x2 x3 x4 g),
      ((37 : Int32),
        f_L_law_1343 N x0 x1 x2 x3 x4 g),
      ((38 : Int32),
        f_L_law_1392 N x0 x1 x2 x3 x4 g),
      ((39 : Int32),
        f_L_law_1429 N x0 x1 x2 x3 x4 g),
      ((40 : Int32),
        f_L_law_1442 N x0 x1 x2 x3 x4 g),
      ((41 : Int32),
        f_L_law_1455 N x0 x1 x2 x3 x4 g),
      ((42 : Int32),
        f_L_law_1468 N x0 x1 x2 x3 x4 g),
      ((43 : Int32),
        f_L_law_1493 N x0 x1 x2 x3 x4 g),
      ((44 : Int32),
        f_L_law_1506 N x0 x1 x2 x3 x4 g),
      ((45 : Int32),
        f_L_law_1543 N x0 x1 x2 x3 x4 g),
      ((46 : Int32),
        f_L_law_1568 N x0 x1 x2 x3 x4 g),
      ((47 : Int32),
        f_L_law_1593 N x0 x1 x2 x3 x4 g),
      ((48 : Int32),
        f_L_law_1618 N x0 x1 x2 x3 x4 g)] (
      f_L_law_1673 N x0 x1 x2 x3 x4 g)

def f_L_law (N : Nat) (x0 : Nat)  (g : ZS) : Option (Int32 × ZS) :=
  (zalloc g (11, 0)).bind fun p1 =>
  (f_X11_init p1.1 p1.2).bind fun g2 =>
  (zalloc g2 (12, 0)).bind fun p3 =>
  (f_X12_init p3.1 p3.2).bind fun g4 =>
  (zalloc g4 (24, 1)).bind fun p5 =>
  zloop (fun s => f_L_law_23 N x0 p1.1 p3.1 p5.1 s.1 s.2) N ((0 : Int32), p5.2)

theorem j_L_law_1673 {X : ZX} (hst : (xl X).stackTraces = false) (N : Nat) (x0 : Nat) (x1 : Nat) (x2 : Nat) (x3 : Nat) (x4 : Int32)   (g : ZS) {K : ((Int32 × ZS) ⊕ (Int32 × ZS)) → Prop} (h0 : ∀ v g, K (.inr (v, g)) → xK X (some (.int v)) g) (hL23 : ∀ s, K (.inl s) → zG Y_L_law X (615 + s.1.toNatClampNeg) (9696 + 2 * s.1.toNatClampNeg) 23 [some (.ref x0), some (.ref x1), some (.ref x2), some (.ref x3), some (.int s.1), none, none, none] [] s.2) : J Y_L_law X (615 + x4.toNatClampNeg + 1) (9696 + 2 * x4.toNatClampNeg + 6) 1673 [some (.ref x0), some (.ref x1), some (.ref x2), some (.ref x3), some (.int x4), none, none, none] [] g (f_L_law_1673 N x0 x1 x2 x3 x4 g) K := by
  unfold f_L_law_1673
  refine J_cap (fun hi => ?_)
  refine J_iinc (5 : Int32) [some (.ref x0), some (.ref x1), some (.ref x2), some (.ref x3), some (.int (x4 + (5 : Int32))), none, none, none] (show Dc Y_L_law 1673 (.iinc 4 5) 3 1676 from ⟨by decide +kernel, rfl⟩) rfl rfl (by decide) rfl rfl ?_
  refine J_goto (tg := 23) (show Dc Y_L_law 1676 (.goto (-1653)) 3 1679 from ⟨by decide +kernel, rfl⟩) (by decide) ?_
  exact J_leaf (fun h => zG.mono (by show 615 + x4.toNatClampNeg + 1 ≤ 615 + (x4 + (5 : Int32)).toNatClampNeg; rw [zcap5 hi]; omega) (by show 9696 + 2 * x4.toNatClampNeg + 6 ≤ 9696 + 2 * (x4 + (5 : Int32)).toNatClampNeg; rw [zcap5 hi]; omega) (hL23 (x4 + (5 : Int32), g) h))

theorem j_L_law_248 {X : ZX} (hst : (xl X).stackTraces = false) (N : Nat) (x0 : Nat) (x1 : Nat) (x2 : Nat) (x3 : Nat) (x4 : Int32)   (g : ZS) {K : ((Int32 × ZS) ⊕ (Int32 × ZS)) → Prop} (h0 : ∀ v g, K (.inr (v, g)) → xK X (some (.int v)) g) (hL23 : ∀ s, K (.inl s) → zG Y_L_law X (615 + s.1.toNatClampNeg) (9696 + 2 * s.1.toNatClampNeg) 23 [some (.ref x0), some (.ref x1), some (.ref x2), some (.ref x3), some (.int s.1), none, none, none] [] s.2) : J Y_L_law X (615 + x4.toNatClampNeg) (9696 + 2 * x4.toNatClampNeg) 248 [some (.ref x0), some (.ref x1), some (.ref x2), some (.ref x3), some (.int x4), none, none, none] [] g (f_L_law_248 N x0 x1 x2 x3 x4 g) K := by
  unfold f_L_law_248
  refine J_cap (fun hi => ?_)
  refine J_aload_n rfl rfl (show Dc Y_L_law 248 (.aload_n 1) 1 249 from ⟨by decide +kernel, rfl⟩) ?_
  refine J_aload_n rfl rfl (show Dc Y_L_law 249 (.aload_n 0) 1 250 from ⟨by decide +kernel, rfl⟩) ?_
  refine J_iload rfl (show Dc Y_L_law 250 (.iload 4) 2 252 from ⟨by decide +kernel, rfl⟩) ?_
  refine J_iconst (1 : Int32) rfl (show Dc Y_L_law 252 (.iconst 1) 1 253 from ⟨by decide +kernel, rfl⟩) ?_
  refine J_iadd (show Dc Y_L_law 253 (.iadd) 1 254 from ⟨by decide +kernel, rfl⟩) ?_
  refine J_sald (show Dc Y_L_law 254 (.iaload) 1 255 from ⟨by decide +kernel, rfl⟩) (fun v1 => ?_)
  refine J_callVi (fun r => r.1) (fun r => r.2) (show Dc Y_L_law 255 (.invokevirtual 27) 3 258 from ⟨by decide +kernel, rfl⟩) w_m_RL_27 w_in_X11_sign rfl w_se_X11_sign w_cw_X11_sign (c_X11_sign N x1 v1 g) rfl rfl (by decide) (Nat.le_of_ble_eq_true rfl) (by show 615 + x4.toNatClampNeg + 0 ≤ 601024; omega) (by show 9696 + 2 * x4.toNatClampNeg + 0 ≤ 7293034; omega) (fun r2 => ?_)
  refine J_aload_n rfl rfl (show Dc Y_L_law 258 (.aload_n 2) 1 259 from ⟨by decide +kernel, rfl⟩) ?_
  refine J_aload_n rfl rfl (show Dc Y_L_law 259 (.aload_n 0) 1 260 from ⟨by decide +kernel, rfl⟩) ?_
  refine J_iload rfl (show Dc Y_L_law 260 (.iload 4) 2 262 from ⟨by decide +kernel, rfl⟩) ?_
  refine J_iconst (1 : Int32) rfl (show Dc Y_L_law 262 (.iconst 1) 1 263 from ⟨by decide +kernel, rfl⟩) ?_
  refine J_iadd (show Dc Y_L_law 263 (.iadd) 1 264 from ⟨by decide +kernel, rfl⟩) ?_
  refine J_sald (show Dc Y_L_law 264 (.iaload) 1 265 from ⟨by decide +kernel, rfl⟩) (fun v3 => ?_)
  refine J_callVi (fun r => r.1) (fun r => r.2) (show Dc Y_L_law 265 (.invokevirtual 31) 3 268 from ⟨by decide +kernel, rfl⟩) w_m_RL_31 w_in_X12_sign rfl w_se_X12_sign w_cw_X12_sign (c_X12_sign N x2 v3 r2.2) rfl rfl (by decide) (Nat.le_of_ble_eq_true rfl) (by show 615 + x4.toNatClampNeg + 0 + 0 ≤ 601024; omega) (by show 9696 + 2 * x4.toNatClampNeg + 0 + 0 ≤ 7293034; omega) (fun r4 => ?_)
  refine J_icmp_eq (tg := 1673) (show Dc Y_L_law 268 (.if_icmp .eq 1405) 3 271 from ⟨by decide +kernel, rfl⟩) (by decide) (fun h => ?_) (fun h => ?_)
  · exact J_mono (by show 615 + x4.toNatClampNeg + 0 + 0 ≤ 615 + x4.toNatClampNeg + 1; omega) (by show 9696 + 2 * x4.toNatClampNeg + 0 + 0 ≤ 9696 + 2 * x4.toNatClampNeg + 6; omega) <| j_L_law_1673 hst N x0 x1 x2 x3 x4 r4.2 h0 hL23
  · refine J_map (f := Sum.inr) (fun _ h => h) ?_
    refine J_iconst (0 : Int32) rfl (show Dc Y_L_law 271 (.iconst 0) 1 272 from ⟨by decide +kernel, rfl⟩) ?_
    exact J_retz rfl (show Dc Y_L_law 272 (.ireturn) 1 273 from ⟨by decide +kernel, rfl⟩) rfl (h0 _ _) (by show 615 + x4.toNatClampNeg + 0 + 0 ≤ 601024; omega) (by show 9696 + 2 * x4.toNatClampNeg + 0 + 0 ≤ 7293034; omega)

theorem j_L_law_273 {X : ZX} (hst : (xl X).stackTraces = false) (N : Nat) (x0 : Nat) (x1 : Nat) (x2 : Nat) (x3 : Nat) (x4 : Int32)   (g : ZS) {K : ((Int32 × ZS) ⊕ (Int32 × ZS)) → Prop} (h0 : ∀ v g, K (.inr (v, g)) → xK X (some (.int v)) g) (hL23 : ∀ s, K (.inl s) → zG Y_L_law X (615 + s.1.toNatClampNeg) (9696 + 2 * s.1.toNatClampNeg) 23 [some (.ref x0), some (.ref x1), some (.ref x2), some (.ref x3), some (.int s.1), none, none, none] [] s.2) : J Y_L_law X (615 + x4.toNatClampNeg) (9696 + 2 * x4.toNatClampNeg) 273 [some (.ref x0), some (.ref x1), some (.ref x2), some (.ref x3), some (.int x4), none, none, none] [] g (f_L_law_273 N x0 x1 x2 x3 x4 g) K := by
  unfold f_L_law_273
  refine J_cap (fun hi => ?_)
  refine J_aload_n rfl rfl (show Dc Y_L_law 273 (.aload_n 1) 1 274 from ⟨by decide +kernel, rfl⟩) ?_
  refine J_aload_n rfl rfl (show Dc Y_L_law 274 (.aload_n 0) 1 275 from ⟨by decide +kernel, rfl⟩) ?_
  refine J_iload rfl (show Dc Y_L_law 275 (.iload 4) 2 277 from ⟨by decide +kernel, rfl⟩) ?_
  refine J_iconst (1 : Int32) rfl (show Dc Y_L_law 277 (.iconst 1) 1 278 from ⟨by decide +kernel, rfl⟩) ?_
  refine J_iadd (show Dc Y_L_law 278 (.iadd) 1 279 from ⟨by decide +kernel, rfl⟩) ?_
  refine J_sald (show Dc Y_L_law 279 (.iaload) 1 280 from ⟨by decide +kernel, rfl⟩) (fun v1 => ?_)
  refine J_callVi (fun r => r.1) (fun r => r.2) (show Dc Y_L_law 280 (.invokevirtual 32) 3 283 from ⟨by decide +kernel, rfl⟩) w_m_RL_32 w_in_X11_end rfl w_se_X11_end w_cw_X11_end (c_X11_end x1 v1 g) rfl rfl (by decide) (Nat.le_of_ble_eq_true rfl) (by show 615 + x4.toNatClampNeg + 0 ≤ 601024; omega) (by show 9696 + 2 * x4.toNatClampNeg + 0 ≤ 7293034; omega) (fun r2 => ?_)
  refine J_aload_n rfl rfl (show Dc Y_L_law 283 (.aload_n 2) 1 284 from ⟨by decide +kernel, rfl⟩) ?_
  refine J_aload_n rfl rfl (show Dc Y_L_law 284 (.aload_n 0) 1 285 from ⟨by decide +kernel, rfl⟩) ?_
  refine J_iload rfl (show Dc Y_L_law 285 (.iload 4) 2 287 from ⟨by decide +kernel, rfl⟩) ?_
  refine J_iconst (1 : Int32) rfl (show Dc Y_L_law 287 (.iconst 1) 1 288 from ⟨by decide +kernel, rfl⟩) ?_
  refine J_iadd (show Dc Y_L_law 288 (.iadd) 1 289 from ⟨by decide +kernel, rfl⟩) ?_
  refine J_sald (show Dc Y_L_law 289 (.iaload) 1 290 from ⟨by decide +kernel, rfl⟩) (fun v3 => ?_)
  refine J_callVi (fun r => r.1) (fun r => r.2) (show Dc Y_L_law 290 (.invokevirtual 36) 3 293 from ⟨by decide +kernel, rfl⟩) w_m_RL_36 w_in_X12_end rfl w_se_X12_end w_cw_X12_end (c_X12_end x2 v3 r2.2) rfl rfl (by decide) (Nat.le_of_ble_eq_true rfl) (by show 615 + x4.toNatClampNeg + 0 + 0 ≤ 601024; omega) (by show 9696 + 2 * x4.toNatClampNeg + 0 + 0 ≤ 7293034; omega) (fun r4 => ?_)
  refine J_icmp_eq (tg := 1673) (show Dc Y_L_law 293 (.if_icmp .eq 1380) 3 296 from ⟨by decide +kernel, rfl⟩) (by decide) (fun h => ?_) (fun h => ?_)
  · exact J_mono (by show 615 + x4.toNatClampNeg + 0 + 0 ≤ 615 + x4.toNatClampNeg + 1; omega) (by show 9696 + 2 * x4.toNatClampNeg + 0 + 0 ≤ 9696 + 2 * x4.toNatClampNeg + 6; omega) <| j_L_law_1673 hst N x0 x1 x2 x3 x4 r4.2 h0 hL23
  · refine J_map (f := Sum.inr) (fun _ h => h) ?_
    refine J_iconst (0 : Int32) rfl (show Dc Y_L_law 296 (.iconst 0) 1 297 from ⟨by decide +kernel, rfl⟩) ?_
    exact J_retz rfl (show Dc Y_L_law 297 (.ireturn) 1 298 from ⟨by decide +kernel, rfl⟩) rfl (h0 _ _) (by show 615 + x4.toNatClampNeg + 0 + 0 ≤ 601024; omega) (by show 9696 + 2 * x4.toNatClampNeg + 0 + 0 ≤ 7293034; omega)

theorem j_L_law_298 {X : ZX} (hst : (xl X).stackTraces = false) (N : Nat) (x0 : Nat) (x1 : Nat) (x2 : Nat) (x3 : Nat) (x4 : Int32)   (g : ZS) {K : ((Int32 × ZS) ⊕ (Int32 × ZS)) → Prop} (h0 : ∀ v g, K (.inr (v, g)) → xK X (some (.int v)) g) (hL23 : ∀ s, K (.inl s) → zG Y_L_law X (615 + s.1.toNatClampNeg) (9696 + 2 * s.1.toNatClampNeg) 23 [some (.ref x0), some (.ref x1), some (.ref x2), some (.ref x3), some (.int s.1), none, none, none] [] s.2) : J Y_L_law X (615 + x4.toNatClampNeg) (9696 + 2 * x4.toNatClampNeg) 298 [some (.ref x0), some (.ref x1), some (.ref x2), some (.ref x3), some (.int x4), none, none, none] [] g (f_L_law_298 N x0 x1 x2 x3 x4 g) K := by
  unfold f_L_law_298
  refine J_cap (fun hi => ?_)
  refine J_aload_n rfl rfl (show Dc Y_L_law 298 (.aload_n 1) 1 299 from ⟨by decide +kernel, rfl⟩) ?_
  refine J_aload_n rfl rfl (show Dc Y_L_law 299 (.aload_n 0) 1 300 from ⟨by decide +kernel, rfl⟩) ?_
  refine J_iload rfl (show Dc Y_L_law 300 (.iload 4) 2 302 from ⟨by decide +kernel, rfl⟩) ?_
  refine J_iconst (1 : Int32) rfl (show Dc Y_L_law 302 (.iconst 1) 1 303 from ⟨by decide +kernel, rfl⟩) ?_
  refine J_iadd (show Dc Y_L_law 303 (.iadd) 1 304 from ⟨by decide +kernel, rfl⟩) ?_
  refine J_sald (show Dc Y_L_law 304 (.iaload) 1 305 from ⟨by decide +kernel, rfl⟩) (fun v1 => ?_)
  refine J_callVi (fun r => r.1) (fun r => r.2) (show Dc Y_L_law 305 (.invokevirtual 37) 3 308 from ⟨by decide +kernel, rfl⟩) w_m_RL_37 w_in_X11_house rfl w_se_X11_house w_cw_X11_house (c_X11_house N x1 v1 g) rfl rfl (by decide) (Nat.le_of_ble_eq_true rfl) (by show 615 + x4.toNatClampNeg + 0 ≤ 601024; omega) (by show 9696 + 2 * x4.toNatClampNeg + 0 ≤ 7293034; omega) (fun r2 => ?_)
  refine J_aload_n rfl rfl (show Dc Y_L_law 308 (.aload_n 2) 1 309 from ⟨by decide +kernel, rfl⟩) ?_
  refine J_aload_n rfl rfl (show Dc Y_L_law 309 (.aload_n 0) 1 310 from ⟨by decide +kernel, rfl⟩) ?_
  refine J_iload rfl (show Dc Y_L_law 310 (.iload 4) 2 312 from ⟨by decide +kernel, rfl⟩) ?_
  refine J_iconst (1 : Int32) rfl (show Dc Y_L_law 312 (.iconst 1) 1 313 from ⟨by decide +kernel, rfl⟩) ?_
  refine J_iadd (show Dc Y_L_law 313 (.iadd) 1 314 from ⟨by decide +kernel, rfl⟩) ?_
  refine J_sald (show Dc Y_L_law 314 (.iaload) 1 315 from ⟨by decide +kernel, rfl⟩) (fun v3 => ?_)
  refine J_callVi (fun r => r.1) (fun r => r.2) (show Dc Y_L_law 315 (.invokevirtual 40) 3 318 from ⟨by decide +kernel, rfl⟩) w_m_RL_40 w_in_X12_house rfl w_se_X12_house w_cw_X12_house (c_X12_house N x2 v3 r2.2) rfl rfl (by decide) (Nat.le_of_ble_eq_true rfl) (by show 615 + x4.toNatClampNeg + 0 + 0 ≤ 601024; omega) (by show 9696 + 2 * x4.toNatClampNeg + 0 + 0 ≤ 7293034; omega) (fun r4 => ?_)
  refine J_icmp_eq (tg := 1673) (show Dc Y_L_law 318 (.if_icmp .eq 1355) 3 321 from ⟨by decide +kernel, rfl⟩) (by decide) (fun h => ?_) (fun h => ?_)
  · exact J_mono (by show 615 + x4.toNatClampNeg + 0 + 0 ≤ 615 + x4.toNatClampNeg + 1; omega) (by show 9696 + 2 * x4.toNatClampNeg + 0 + 0 ≤ 9696 + 2 * x4.toNatClampNeg + 6; omega) <| j_L_law_1673 hst N x0 x1 x2 x3 x4 r4.2 h0 hL23
  · refine J_map (f := Sum.inr) (fun _ h => h) ?_
    refine J_iconst (0 : Int32) rfl (show Dc Y_L_law 321 (.iconst 0) 1 322 from ⟨by decide +kernel, rfl⟩) ?_
    exact J_retz rfl (show Dc Y_L_law 322 (.ireturn) 1 323 from ⟨by decide +kernel, rfl⟩) rfl (h0 _ _) (by show 615 + x4.toNatClampNeg + 0 + 0 ≤ 601024; omega) (by show 9696 + 2 * x4.toNatClampNeg + 0 + 0 ≤ 7293034; omega)

theorem j_L_law_323 {X : ZX} (hst : (xl X).stackTraces = false) (N : Nat) (x0 : Nat) (x1 : Nat) (x2 : Nat) (x3 : Nat) (x4 : Int32)   (g : ZS) {K : ((Int32 × ZS) ⊕ (Int32 × ZS)) → Prop} (h0 : ∀ v g, K (.inr (v, g)) → xK X (some (.int v)) g) (hL23 : ∀ s, K (.inl s) → zG Y_L_law X (615 + s.1.toNatClampNeg) (9696 + 2 * s.1.toNatClampNeg) 23 [some (.ref x0), some (.ref x1), some (.ref x2), some (.ref x3), some (.int s.1), none, none, none] [] s.2) : J Y_L_law X (615 + x4.toNatClampNeg) (9696 + 2 * x4.toNatClampNeg) 323 [some (.ref x0), some (.ref x1), some (.ref x2), some (.ref x3), some (.int x4), none, none, none] [] g (f_L_law_323 N x0 x1 x2 x3 x4 g) K := by
  unfold f_L_law_323
  refine J_cap (fun hi => ?_)
  refine J_aload_n rfl rfl (show Dc Y_L_law 323 (.aload_n 1) 1 324 from ⟨by decide +kernel, rfl⟩) ?_
  refine J_callVi (fun r => r.1) (fun r => r.2) (show Dc Y_L_law 324 (.invokevirtual 41) 3 327 from ⟨by decide +kernel, rfl⟩) w_m_RL_41 w_in_X11_parrots rfl w_se_X11_parrots w_cw_X11_parrots (c_X11_parrots N x1 g) rfl rfl (by decide) (Nat.le_of_ble_eq_true rfl) (by show 615 + x4.toNatClampNeg + 0 ≤ 601024; omega) (by show 9696 + 2 * x4.toNatClampNeg + 0 ≤ 7293034; omega) (fun r1 => ?_)
  refine J_aload_n rfl rfl (show Dc Y_L_law 327 (.aload_n 2) 1 328 from ⟨by decide +kernel, rfl⟩) ?_
  refine J_callVi (fun r => r.1) (fun r => r.2) (show Dc Y_L_law 328 (.invokevirtual 45) 3 331 from ⟨by decide +kernel, rfl⟩) w_m_RL_45 w_in_X12_parrots rfl w_se_X12_parrots w_cw_X12_parrots (c_X12_parrots N x2 r1.2) rfl rfl (by decide) (Nat.le_of_ble_eq_true rfl) (by show 615 + x4.toNatClampNeg + 0 + 0 ≤ 601024; omega) (by show 9696 + 2 * x4.toNatClampNeg + 0 + 0 ≤ 7293034; omega) (fun r2 => ?_)
  refine J_icmp_eq (tg := 1673) (show Dc Y_L_law 331 (.if_icmp .eq 1342) 3 334 from ⟨by decide +kernel, rfl⟩) (by decide) (fun h => ?_) (fun h => ?_)
  · exact J_mono (by show 615 + x4.toNatClampNeg + 0 + 0 ≤ 615 + x4.toNatClampNeg + 1; omega) (by show 9696 + 2 * x4.toNatClampNeg + 0 + 0 ≤ 9696 + 2 * x4.toNatClampNeg + 6; omega) <| j_L_law_1673 hst N x0 x1 x2 x3 x4 r2.2 h0 hL23
  · refine J_map (f := Sum.inr) (fun _ h => h) ?_
    refine J_iconst (0 : Int32) rfl (show Dc Y_L_law 334 (.iconst 0) 1 335 from ⟨by decide +kernel, rfl⟩) ?_
    exact J_retz rfl (show Dc Y_L_law 335 (.ireturn) 1 336 from ⟨by decide +kernel, rfl⟩) rfl (h0 _ _) (by show 615 + x4.toNatClampNeg + 0 + 0 ≤ 601024; omega) (by show 9696 + 2 * x4.toNatClampNeg + 0 + 0 ≤ 7293034; omega)

theorem j_L_law_336 {X : ZX} (hst : (xl X).stackTraces = false) (N : Nat) (x0 : Nat) (x1 : Nat) (x2 : Nat) (x3 : Nat) (x4 : Int32)   (g : ZS) {K : ((Int32 × ZS) ⊕ (Int32 × ZS)) → Prop} (h0 : ∀ v g, K (.inr (v, g)) → xK X (some (.int v)) g) (hL23 : ∀ s, K (.inl s) → zG Y_L_law X (615 + s.1.toNatClampNeg) (9696 + 2 * s.1.toNatClampNeg) 23 [some (.ref x0), some (.ref x1), some (.ref x2), some (.ref x3), some (.int s.1), none, none, none] [] s.2) : J Y_L_law X (615 + x4.toNatClampNeg) (9696 + 2 * x4.toNatClampNeg) 336 [some (.ref x0), some (.ref x1), some (.ref x2), some (.ref x3), some (.int x4), none, none, none] [] g (f_L_law_336 N x0 x1 x2 x3 x4 g) K := by
  unfold f_L_law_336
  refine J_cap (fun hi => ?_)
  refine J_aload_n rfl rfl (show Dc Y_L_law 336 (.aload_n 1) 1 337 from ⟨by decide +kernel, rfl⟩) ?_
  refine J_callVi (fun r => r.1) (fun r => r.2) (show Dc Y_L_law 337 (.invokevirtual 46) 3 340 from ⟨by decide +kernel, rfl⟩) w_m_RL_46 w_in_X11_worths rfl w_se_X11_worths w_cw_X11_worths (c_X11_worths N x1 g) rfl rfl (by decide) (Nat.le_of_ble_eq_true rfl) (by show 615 + x4.toNatClampNeg + 0 ≤ 601024; omega) (by show 9696 + 2 * x4.toNatClampNeg + 0 ≤ 7293034; omega) (fun r1 => ?_)
  refine J_aload_n rfl rfl (show Dc Y_L_law 340 (.aload_n 2) 1 341 from ⟨by decide +kernel, rfl⟩) ?_
  refine J_callVi (fun r => r.1) (fun r => r.2) (show Dc Y_L_law 341 (.invokevirtual 49) 3 344 from ⟨by decide +kernel, rfl⟩) w_m_RL_49 w_in_X12_worths rfl w_se_X12_worths w_cw_X12_worths (c_X12_worths N x2 r1.2) rfl rfl (by decide) (Nat.le_of_ble_eq_true rfl) (by show 615 + x4.toNatClampNeg + 0 + 0 ≤ 601024; omega) (by show 9696 + 2 * x4.toNatClampNeg + 0 + 0 ≤ 7293034; omega) (fun r2 => ?_)
  refine J_icmp_eq (tg := 1673) (show Dc Y_L_law 344 (.if_icmp .eq 1329) 3 347 from ⟨by decide +kernel, rfl⟩) (by decide) (fun h => ?_) (fun h => ?_)
  · exact J_mono (by show 615 + x4.toNatClampNeg + 0 + 0 ≤ 615 + x4.toNatClampNeg + 1; omega) (by show 9696 + 2 * x4.toNatClampNeg + 0 + 0 ≤ 9696 + 2 * x4.toNatClampNeg + 6; omega) <| j_L_law_1673 hst N x0 x1 x2 x3 x4 r2.2 h0 hL23
  · refine J_map (f := Sum.inr) (fun _ h => h) ?_
    refine J_iconst (0 : Int32) rfl (show Dc Y_L_law 347 (.iconst 0) 1 348 from ⟨by decide +kernel, rfl⟩) ?_
    exact J_retz rfl (show Dc Y_L_law 348 (.ireturn) 1 349 from ⟨by decide +kernel, rfl⟩) rfl (h0 _ _) (by show 615 + x4.toNatClampNeg + 0 + 0 ≤ 601024; omega) (by show 9696 + 2 * x4.toNatClampNeg + 0 + 0 ≤ 7293034; omega)

theorem j_L_law_349 {X : ZX} (hst : (xl X).stackTraces = false) (N : Nat) (x0 : Nat) (x1 : Nat) (x2 : Nat) (x3 : Nat) (x4 : Int32)   (g : ZS) {K : ((Int32 × ZS) ⊕ (Int32 × ZS)) → Prop} (h0 : ∀ v g, K (.inr (v, g)) → xK X (some (.int v)) g) (hL23 : ∀ s, K (.inl s) → zG Y_L_law X (615 + s.1.toNatClampNeg) (9696 + 2 * s.1.toNatClampNeg) 23 [some (.ref x0), some (.ref x1), some (.ref x2), some (.ref x3), some (.int s.1), none, none, none] [] s.2) : J Y_L_law X (615 + x4.toNatClampNeg) (9696 + 2 * x4.toNatClampNeg) 349 [some (.ref x0), some (.ref x1), some (.ref x2), some (.ref x3), some (.int x4), none, none, none] [] g (f_L_law_349 N x0 x1 x2 x3 x4 g) K := by
  unfold f_L_law_349
  refine J_cap (fun hi => ?_)
  refine J_aload_n rfl rfl (show Dc Y_L_law 349 (.aload_n 1) 1 350 from ⟨by decide +kernel, rfl⟩) ?_
  refine J_callVi (fun r => r.1) (fun r => r.2) (show Dc Y_L_law 350 (.invokevirtual 50) 3 353 from ⟨by decide +kernel, rfl⟩) w_m_RL_50 w_in_X11_rule rfl w_se_X11_rule w_cw_X11_rule (c_X11_rule N x1 g) rfl rfl (by decide) (Nat.le_of_ble_eq_true rfl) (by show 615 + x4.toNatClampNeg + 0 ≤ 601024; omega) (by show 9696 + 2 * x4.toNatClampNeg + 0 ≤ 7293034; omega) (fun r1 => ?_)
  refine J_aload_n rfl rfl (show Dc Y_L_law 353 (.aload_n 2) 1 354 from ⟨by decide +kernel, rfl⟩) ?_
  refine J_callVi (fun r => r.1) (fun r => r.2) (show Dc Y_L_law 354 (.invokevirtual 53) 3 357 from ⟨by decide +kernel, rfl⟩) w_m_RL_53 w_in_X12_rule rfl w_se_X12_rule w_cw_X12_rule (c_X12_rule N x2 r1.2) rfl rfl (by decide) (Nat.le_of_ble_eq_true rfl) (by show 615 + x4.toNatClampNeg + 0 + 0 ≤ 601024; omega) (by show 9696 + 2 * x4.toNatClampNeg + 0 + 0 ≤ 7293034; omega) (fun r2 => ?_)
  refine J_icmp_eq (tg := 1673) (show Dc Y_L_law 357 (.if_icmp .eq 1316) 3 360 from ⟨by decide +kernel, rfl⟩) (by decide) (fun h => ?_) (fun h => ?_)
  · exact J_mono (by show 615 + x4.toNatClampNeg + 0 + 0 ≤ 615 + x4.toNatClampNeg + 1; omega) (by show 9696 + 2 * x4.toNatClampNeg + 0 + 0 ≤ 9696 + 2 * x4.toNatClampNeg + 6; omega) <| j_L_law_1673 hst N x0 x1 x2 x3 x4 r2.2 h0 hL23
  · refine J_map (f := Sum.inr) (fun _ h => h) ?_
    refine J_iconst (0 : Int32) rfl (show Dc Y_L_law 360 (.iconst 0) 1 361 from ⟨by decide +kernel, rfl⟩) ?_
    exact J_retz rfl (show Dc Y_L_law 361 (.ireturn) 1 362 from ⟨by decide +kernel, rfl⟩) rfl (h0 _ _) (by show 615 + x4.toNatClampNeg + 0 + 0 ≤ 601024; omega) (by show 9696 + 2 * x4.toNatClampNeg + 0 + 0 ≤ 7293034; omega)

theorem j_L_law_427 {X : ZX} (hst : (xl X).stackTraces = false) (N : Nat) (x0 : Nat) (x1 : Nat) (x2 : Nat) (x3 : Nat) (x4 : Int32)   (g : ZS) {K : ((Int32 × ZS) ⊕ (Int32 × ZS)) → Prop} (h0 : ∀ v g, K (.inr (v, g)) → xK X (some (.int v)) g) (hL23 : ∀ s, K (.inl s) → zG Y_L_law X (615 + s.1.toNatClampNeg) (9696 + 2 * s.1.toNatClampNeg) 23 [some (.ref x0), some (.ref x1), some (.ref x2), some (.ref x3), some (.int s.1), none, none, none] [] s.2) : J Y_L_law X (615 + x4.toNatClampNeg + 1) (9696 + 2 * x4.toNatClampNeg + 6) 427 [some (.ref x0), some (.ref x1), some (.ref x2), some (.ref x3), some (.int x4), none, none, none] [] g (f_L_law_427 N x0 x1 x2 x3 x4 g) K := by
  unfold f_L_law_427
  refine J_goto (tg := 1673) (show Dc Y_L_law 427 (.goto 1246) 3 430 from ⟨by decide +kernel, rfl⟩) (by decide) ?_
  exact J_mono (by show 615 + x4.toNatClampNeg + 1 ≤ 615 + x4.toNatClampNeg + 1; omega) (by show 9696 + 2 * x4.toNatClampNeg + 6 ≤ 9696 + 2 * x4.toNatClampNeg + 6; omega) <| j_L_law_1673 hst N x0 x1 x2 x3 x4 g h0 hL23

theorem j_L_law_362 {X : ZX} (hst : (xl X).stackTraces = false) (N : Nat) (x0 : Nat) (x1 : Nat) (x2 : Nat) (x3 : Nat) (x4 : Int32)   (g : ZS) {K : ((Int32 × ZS) ⊕ (Int32 × ZS)) → Prop} (h0 : ∀ v g, K (.inr (v, g)) → xK X (some (.int v)) g) (hL23 : ∀ s, K (.inl s) → zG Y_L_law X (615 + s.1.toNatClampNeg) (9696 + 2 * s.1.toNatClampNeg) 23 [some (.ref x0), some (.ref x1), some (.ref x2), some (.ref x3), some (.int s.1), none, none, none] [] s.2) : J Y_L_law X (615 + x4.toNatClampNeg) (9696 + 2 * x4.toNatClampNeg) 362 [some (.ref x0), some (.ref x1), some (.ref x2), some (.ref x3), some (.int x4), none, none, none] [] g (f_L_law_362 N x0 x1 x2 x3 x4 g) K := by
  unfold f_L_law_362
  refine J_cap (fun hi => ?_)
  refine J_aload_n rfl rfl (show Dc Y_L_law 362 (.aload_n 1) 1 363 from ⟨by decide +kernel, rfl⟩) ?_
  refine J_aload_n rfl rfl (show Dc Y_L_law 363 (.aload_n 0) 1 364 from ⟨by decide +kernel, rfl⟩) ?_
  refine J_iload rfl (show Dc Y_L_law 364 (.iload 4) 2 366 from ⟨by decide +kernel, rfl⟩) ?_
  refine J_iconst (1 : Int32) rfl (show Dc Y_L_law 366 (.iconst 1) 1 367 from ⟨by decide +kernel, rfl⟩) ?_
  refine J_iadd (show Dc Y_L_law 367 (.iadd) 1 368 from ⟨by decide +kernel, rfl⟩) ?_
  refine J_sald (show Dc Y_L_law 368 (.iaload) 1 369 from ⟨by decide +kernel, rfl⟩) (fun v1 => ?_)
  refine J_aload_n rfl rfl (show Dc Y_L_law 369 (.aload_n 0) 1 370 from ⟨by decide +kernel, rfl⟩) ?_
  refine J_iload rfl (show Dc Y_L_law 370 (.iload 4) 2 372 from ⟨by decide +kernel, rfl⟩) ?_
  refine J_iconst (2 : Int32) rfl (show Dc Y_L_law 372 (.iconst 2) 1 373 from ⟨by decide +kernel, rfl⟩) ?_
  refine J_iadd (show Dc Y_L_law 373 (.iadd) 1 374 from ⟨by decide +kernel, rfl⟩) ?_
  refine J_sald (show Dc Y_L_law 374 (.iaload) 1 375 from ⟨by decide +kernel, rfl⟩) (fun v2 => ?_)
  refine J_aload_n rfl rfl (show Dc Y_L_law 375 (.aload_n 3) 1 376 from ⟨by decide +kernel, rfl⟩) ?_
  refine J_callSW (fun r => r.1) (fun r => r.2) (show Dc Y_L_law 376 (.invokestatic 54) 3 379 from ⟨by decide +kernel, rfl⟩) w_m_RL_54 w_st_L_parrot w_cwW_L_parrot (c_L_parrot hst N x1 v1 v2 x3 g) rfl rfl (by decide) (Nat.le_of_ble_eq_true rfl) (by show 615 + x4.toNatClampNeg + 1 ≤ 601024; omega) (by show 9696 + 2 * x4.toNatClampNeg + 6 ≤ 7293034; omega) (fun r3 => ?_)
  refine J_istore [some (.ref x0), some (.ref x1), some (.ref x2), some (.ref x3), some (.int x4), some (.int r3.1), none, none] (show Dc Y_L_law 379 (.istore 5) 2 381 from ⟨by decide +kernel, rfl⟩) (by decide) rfl rfl ?_
  refine J_aload_n rfl rfl (show Dc Y_L_law 381 (.aload_n 2) 1 382 from ⟨by decide +kernel, rfl⟩) ?_
  refine J_aload_n rfl rfl (show Dc Y_L_law 382 (.aload_n 0) 1 383 from ⟨by decide +kernel, rfl⟩) ?_
  refine J_iload rfl (show Dc Y_L_law 383 (.iload 4) 2 385 from ⟨by decide +kernel, rfl⟩) ?_
  refine J_iconst (1 : Int32) rfl (show Dc Y_L_law 385 (.iconst 1) 1 386 from ⟨by decide +kernel, rfl⟩) ?_
  refine J_iadd (show Dc Y_L_law 386 (.iadd) 1 387 from ⟨by decide +kernel, rfl⟩) ?_
  refine J_sald (show Dc Y_L_law 387 (.iaload) 1 388 from ⟨by decide +kernel, rfl⟩) (fun v4 => ?_)
  refine J_aload_n rfl rfl (show Dc Y_L_law 388 (.aload_n 0) 1 389 from ⟨by decide +kernel, rfl⟩) ?_
  refine J_iload rfl (show Dc Y_L_law 389 (.iload 4) 2 391 from ⟨by decide +kernel, rfl⟩) ?_
  refine J_iconst (2 : Int32) rfl (show Dc Y_L_law 391 (.iconst 2) 1 392 from ⟨by decide +kernel, rfl⟩) ?_
  refine J_iadd (show Dc Y_L_law 392 (.iadd) 1 393 from ⟨by decide +kernel, rfl⟩) ?_
  refine J_sald (show Dc Y_L_law 393 (.iaload) 1 394 from ⟨by decide +kernel, rfl⟩) (fun v5 => ?_)
  refine J_callVi (fun r => r.1) (fun r => r.2) (show Dc Y_L_law 394 (.invokevirtual 59) 3 397 from ⟨by decide +kernel, rfl⟩) w_m_RL_59 w_in_X12_parrot rfl w_se_X12_parrot w_cw_X12_parrot (c_X12_parrot N x2 v4 v5 r3.2) rfl rfl (by decide) (Nat.le_of_ble_eq_true rfl) (by show 615 + x4.toNatClampNeg + 1 + 0 ≤ 601024; omega) (by show 9696 + 2 * x4.toNatClampNeg + 6 + 0 ≤ 7293034; omega) (fun r6 => ?_)
  refine J_istore [some (.ref x0), some (.ref x1), some (.ref x2), some (.ref x3), some (.int x4), some (.int r3.1), some (.int r6.1), none] (show Dc Y_L_law 397 (.istore 6) 2 399 from ⟨by decide +kernel, rfl⟩) (by decide) rfl rfl ?_
  refine J_aload_n rfl rfl (show Dc Y_L_law 399 (.aload_n 2) 1 400 from ⟨by decide +kernel, rfl⟩) ?_
  refine J_callVi (fun r => r) (fun _ => r6.2) (show Dc Y_L_law 400 (.invokevirtual 60) 3 403 from ⟨by decide +kernel, rfl⟩) w_m_RL_60 w_in_X12_thrown rfl w_se_X12_thrown w_cw_X12_thrown (c_X12_thrown x2 r6.2) rfl rfl (by decide) (Nat.le_of_ble_eq_true rfl) (by show 615 + x4.toNatClampNeg + 1 + 0 + 0 ≤ 601024; omega) (by show 9696 + 2 * x4.toNatClampNeg + 6 + 0 + 0 ≤ 7293034; omega) (fun v7 => ?_)
  refine J_iload rfl (show Dc Y_L_law 403 (.iload 5) 2 405 from ⟨by decide +kernel, rfl⟩) ?_
  refine J_icmp_eq (tg := 410) (show Dc Y_L_law 405 (.if_icmp .eq 5) 3 408 from ⟨by decide +kernel, rfl⟩) (by decide) (fun h => ?_) (fun h => ?_)
  · refine J_iload rfl (show Dc Y_L_law 410 (.iload 5) 2 412 from ⟨by decide +kernel, rfl⟩) ?_
    refine J_if_ne (tg := 427) (show Dc Y_L_law 412 (.ifCond .ne 15) 3 415 from ⟨by decide +kernel, rfl⟩) (by decide) (fun h => ?_) (fun h => ?_)
    · refine J_mask [true, true, true, true, true, false, false, false] ?_
      exact J_mono (by show 615 + x4.toNatClampNeg + 1 + 0 + 0 ≤ 615 + x4.toNatClampNeg + 1; omega) (by show 9696 + 2 * x4.toNatClampNeg + 6 + 0 + 0 ≤ 9696 + 2 * x4.toNatClampNeg + 6; omega) <| j_L_law_427 hst N x0 x1 x2 x3 x4 r6.2 h0 hL23
    · refine J_aload_n rfl rfl (show Dc Y_L_law 415 (.aload_n 3) 1 416 from ⟨by decide +kernel, rfl⟩) ?_
      refine J_iconst (0 : Int32) rfl (show Dc Y_L_law 416 (.iconst 0) 1 417 from ⟨by decide +kernel, rfl⟩) ?_
      refine J_lald (show Dc Y_L_law 417 (.laload) 1 418 from ⟨by decide +kernel, rfl⟩) (fun v8 => ?_)
      refine J_iload rfl (show Dc Y_L_law 418 (.iload 6) 2 420 from ⟨by decide +kernel, rfl⟩) ?_
      refine J_i2l (show Dc Y_L_law 420 (.i2l) 1 421 from ⟨by decide +kernel, rfl⟩) ?_
      refine J_lcmp (show Dc Y_L_law 421 (.lcmp) 1 422 from ⟨by decide +kernel, rfl⟩) ?_
      refine J_if_eq (tg := 427) (show Dc Y_L_law 422 (.ifCond .eq 5) 3 425 from ⟨by decide +kernel, rfl⟩) (by decide) (fun h => ?_) (fun h => ?_)
      · refine J_mask [true, true, true, true, true, false, false, false] ?_
        exact J_mono (by show 615 + x4.toNatClampNeg + 1 + 0 + 0 ≤ 615 + x4.toNatClampNeg + 1; omega) (by show 9696 + 2 * x4.toNatClampNeg + 6 + 0 + 0 ≤ 9696 + 2 * x4.toNatClampNeg + 6; omega) <| j_L_law_427 hst N x0 x1 x2 x3 x4 r6.2 h0 hL23
      · refine J_map (f := Sum.inr) (fun _ h => h) ?_
        refine J_iconst (0 : Int32) rfl (show Dc Y_L_law 425 (.iconst 0) 1 426 from ⟨by decide +kernel, rfl⟩) ?_
        exact J_retz rfl (show Dc Y_L_law 426 (.ireturn) 1 427 from ⟨by decide +kernel, rfl⟩) rfl (h0 _ _) (by show 615 + x4.toNatClampNeg + 1 + 0 + 0 ≤ 601024; omega) (by show 9696 + 2 * x4.toNatClampNeg + 6 + 0 + 0 ≤ 7293034; omega)
  · refine J_map (f := Sum.inr) (fun _ h => h) ?_
    refine J_iconst (0 : Int32) rfl (show Dc Y_L_law 408 (.iconst 0) 1 409 from ⟨by decide +kernel, rfl⟩) ?_
    exact J_retz rfl (show Dc Y_L_law 409 (.ireturn) 1 410 from ⟨by decide +kernel, rfl⟩) rfl (h0 _ _) (by show 615 + x4.toNatClampNeg + 1 + 0 + 0 ≤ 601024; omega) (by show 9696 + 2 * x4.toNatClampNeg + 6 + 0 + 0 ≤ 7293034; omega)

theorem j_L_law_507 {X : ZX} (hst : (xl X).stackTraces = false) (N : Nat) (x0 : Nat) (x1 : Nat) (x2 : Nat) (x3 : Nat) (x4 : Int32)   (g : ZS) {K : ((Int32 × ZS) ⊕ (Int32 × ZS)) → Prop} (h0 : ∀ v g, K (.inr (v, g)) → xK X (some (.int v)) g) (hL23 : ∀ s, K (.inl s) → zG Y_L_law X (615 + s.1.toNatClampNeg) (9696 + 2 * s.1.toNatClampNeg) 23 [some (.ref x0), some (.ref x1), some (.ref x2), some (.ref x3), some (.int s.1), none, none, none] [] s.2) : J Y_L_law X (615 + x4.toNatClampNeg + 1) (9696 + 2 * x4.toNatClampNeg + 6) 507 [some (.ref x0), some (.ref x1), some (.ref x2), some (.ref x3), some (.int x4), none, none, none] [] g (f_L_law_507 N x0 x1 x2 x3 x4 g) K := by
  unfold f_L_law_507
  refine J_goto (tg := 1673) (show Dc Y_L_law 507 (.goto 1166) 3 510 from ⟨by decide +kernel, rfl⟩) (by decide) ?_
  exact J_mono (by show 615 + x4.toNatClampNeg + 1 ≤ 615 + x4.toNatClampNeg + 1; omega) (by show 9696 + 2 * x4.toNatClampNeg + 6 ≤ 9696 + 2 * x4.toNatClampNeg + 6; omega) <| j_L_law_1673 hst N x0 x1 x2 x3 x4 g h0 hL23

theorem j_L_law_430 {X : ZX} (hst : (xl X).stackTraces = false) (N : Nat) (x0 : Nat) (x1 : Nat) (x2 : Nat) (x3 : Nat) (x4 : Int32)   (g : ZS) {K : ((Int32 × ZS) ⊕ (Int32 × ZS)) → Prop} (h0 : ∀ v g, K (.inr (v, g)) → xK X (some (.int v)) g) (hL23 : ∀ s, K (.inl s) → zG Y_L_law X (615 + s.1.toNatClampNeg) (9696 + 2 * s.1.toNatClampNeg) 23 [some (.ref x0), some (.ref x1), some (.ref x2), some (.ref x3), some (.int s.1), none, none, none] [] s.2) : J Y_L_law X (615 + x4.toNatClampNeg) (9696 + 2 * x4.toNatClampNeg) 430 [some (.ref x0), some (.ref x1), some (.ref x2), some (.ref x3), some (.int x4), none, none, none] [] g (f_L_law_430 N x0 x1 x2 x3 x4 g) K := by
  unfold f_L_law_430
  refine J_cap (fun hi => ?_)
  refine J_aload_n rfl rfl (show Dc Y_L_law 430 (.aload_n 1) 1 431 from ⟨by decide +kernel, rfl⟩) ?_
  refine J_aload_n rfl rfl (show Dc Y_L_law 431 (.aload_n 0) 1 432 from ⟨by decide +kernel, rfl⟩) ?_
  refine J_iload rfl (show Dc Y_L_law 432 (.iload 4) 2 434 from ⟨by decide +kernel, rfl⟩) ?_
  refine J_iconst (1 : Int32) rfl (show Dc Y_L_law 434 (.iconst 1) 1 435 from ⟨by decide +kernel, rfl⟩) ?_
  refine J_iadd (show Dc Y_L_law 435 (.iadd) 1 436 from ⟨by decide +kernel, rfl⟩) ?_
  refine J_sald (show Dc Y_L_law 436 (.iaload) 1 437 from ⟨by decide +kernel, rfl⟩) (fun v1 => ?_)
  refine J_aload_n rfl rfl (show Dc Y_L_law 437 (.aload_n 0) 1 438 from ⟨by decide +kernel, rfl⟩) ?_
  refine J_iload rfl (show Dc Y_L_law 438 (.iload 4) 2 440 from ⟨by decide +kernel, rfl⟩) ?_
  refine J_iconst (2 : Int32) rfl (show Dc Y_L_law 440 (.iconst 2) 1 441 from ⟨by decide +kernel, rfl⟩) ?_
  refine J_iadd (show Dc Y_L_law 441 (.iadd) 1 442 from ⟨by decide +kernel, rfl⟩) ?_
  refine J_sald (show Dc Y_L_law 442 (.iaload) 1 443 from ⟨by decide +kernel, rfl⟩) (fun v2 => ?_)
  refine J_aload_n rfl rfl (show Dc Y_L_law 443 (.aload_n 0) 1 444 from ⟨by decide +kernel, rfl⟩) ?_
  refine J_iload rfl (show Dc Y_L_law 444 (.iload 4) 2 446 from ⟨by decide +kernel, rfl⟩) ?_
  refine J_iconst (3 : Int32) rfl (show Dc Y_L_law 446 (.iconst 3) 1 447 from ⟨by decide +kernel, rfl⟩) ?_
  refine J_iadd (show Dc Y_L_law 447 (.iadd) 1 448 from ⟨by decide +kernel, rfl⟩) ?_
  refine J_sald (show Dc Y_L_law 448 (.iaload) 1 449 from ⟨by decide +kernel, rfl⟩) (fun v3 => ?_)
  refine J_aload_n rfl rfl (show Dc Y_L_law 449 (.aload_n 3) 1 450 from ⟨by decide +kernel, rfl⟩) ?_
  refine J_callSW (fun r => r.1) (fun r => r.2) (show Dc Y_L_law 450 (.invokestatic 63) 3 453 from ⟨by decide +kernel, rfl⟩) w_m_RL_63 w_st_L_word w_cwW_L_word (c_L_word hst N x1 v1 v2 v3 x3 g) rfl rfl (by decide) (Nat.le_of_ble_eq_true rfl) (by show 615 + x4.toNatClampNeg + 1 ≤ 601024; omega) (by show 9696 + 2 * x4.toNatClampNeg + 6 ≤ 7293034; omega) (fun r4 => ?_)
  refine J_istore [some (.ref x0), some (.ref x1), some (.ref x2), some (.ref x3), some (.int x4), some (.int r4.1), none, none] (show Dc Y_L_law 453 (.istore 5) 2 455 from ⟨by decide +kernel, rfl⟩) (by decide) rfl rfl ?_
  refine J_aload_n rfl rfl (show Dc Y_L_law 455 (.aload_n 2) 1 456 from ⟨by decide +kernel, rfl⟩) ?_
  refine J_aload_n rfl rfl (show Dc Y_L_law 456 (.aload_n 0) 1 457 from ⟨by decide +kernel, rfl⟩) ?_
  refine J_iload rfl (show Dc Y_L_law 457 (.iload 4) 2 459 from ⟨by decide +kernel, rfl⟩) ?_
  refine J_iconst (1 : Int32) rfl (show Dc Y_L_law 459 (.iconst 1) 1 460 from ⟨by decide +kernel, rfl⟩) ?_
  refine J_iadd (show Dc Y_L_law 460 (.iadd) 1 461 from ⟨by decide +kernel, rfl⟩) ?_
  refine J_sald (show Dc Y_L_law 461 (.iaload) 1 462 from ⟨by decide +kernel, rfl⟩) (fun v5 => ?_)
  refine J_aload_n rfl rfl (show Dc Y_L_law 462 (.aload_n 0) 1 463 from ⟨by decide +kernel, rfl⟩) ?_
  refine J_iload rfl (show Dc Y_L_law 463 (.iload 4) 2 465 from ⟨by decide +kernel, rfl⟩) ?_
  refine J_iconst (2 : Int32) rfl (show Dc Y_L_law 465 (.iconst 2) 1 466 from ⟨by decide +kernel, rfl⟩) ?_
  refine J_iadd (show Dc Y_L_law 466 (.iadd) 1 467 from ⟨by decide +kernel, rfl⟩) ?_
  refine J_sald (show Dc Y_L_law 467 (.iaload) 1 468 from ⟨by decide +kernel, rfl⟩) (fun v6 => ?_)
  refine J_aload_n rfl rfl (show Dc Y_L_law 468 (.aload_n 0) 1 469 from ⟨by decide +kernel, rfl⟩) ?_
  refine J_iload rfl (show Dc Y_L_law 469 (.iload 4) 2 471 from ⟨by decide +kernel, rfl⟩) ?_
  refine J_iconst (3 : Int32) rfl (show Dc Y_L_law 471 (.iconst 3) 1 472 from ⟨by decide +kernel, rfl⟩) ?_
  refine J_iadd (show Dc Y_L_law 472 (.iadd) 1 473 from ⟨by decide +kernel, rfl⟩) ?_
  refine J_sald (show Dc Y_L_law 473 (.iaload) 1 474 from ⟨by decide +kernel, rfl⟩) (fun v7 => ?_)
  refine J_callVi (fun r => r.1) (fun r => r.2) (show Dc Y_L_law 474 (.invokevirtual 66) 3 477 from ⟨by decide +kernel, rfl⟩) w_m_RL_66 w_in_X12_word rfl w_se_X12_word w_cw_X12_word (c_X12_word N x2 v5 v6 v7 r4.2) rfl rfl (by decide) (Nat.le_of_ble_eq_true rfl) (by show 615 + x4.toNatClampNeg + 1 + 0 ≤ 601024; omega) (by show 9696 + 2 * x4.toNatClampNeg + 6 + 0 ≤ 7293034; omega) (fun r8 => ?_)
  refine J_istore [some (.ref x0), some (.ref x1), some (.ref x2), some (.ref x3), some (.int x4), some (.int r4.1), some (.int r8.1), none] (show Dc Y_L_law 477 (.istore 6) 2 479 from ⟨by decide +kernel, rfl⟩) (by decide) rfl rfl ?_
  refine J_aload_n rfl rfl (show Dc Y_L_law 479 (.aload_n 2) 1 480 from ⟨by decide +kernel, rfl⟩) ?_
  refine J_callVi (fun r => r) (fun _ => r8.2) (show Dc Y_L_law 480 (.invokevirtual 60) 3 483 from ⟨by decide +kernel, rfl⟩) w_m_RL_60 w_in_X12_thrown rfl w_se_X12_thrown w_cw_X12_thrown (c_X12_thrown x2 r8.2) rfl rfl (by decide) (Nat.le_of_ble_eq_true rfl) (by show 615 + x4.toNatClampNeg + 1 + 0 + 0 ≤ 601024; omega) (by show 9696 + 2 * x4.toNatClampNeg + 6 + 0 + 0 ≤ 7293034; omega) (fun v9 => ?_)
  refine J_iload rfl (show Dc Y_L_law 483 (.iload 5) 2 485 from ⟨by decide +kernel, rfl⟩) ?_
  refine J_icmp_eq (tg := 490) (show Dc Y_L_law 485 (.if_icmp .eq 5) 3 488 from ⟨by decide +kernel, rfl⟩) (by decide) (fun h => ?_) (fun h => ?_)
  · refine J_iload rfl (show Dc Y_L_law 490 (.iload 5) 2 492 from ⟨by decide +kernel, rfl⟩) ?_
    refine J_if_ne (tg := 507) (show Dc Y_L_law 492 (.ifCond .ne 15) 3 495 from ⟨by decide +kernel, rfl⟩) (by decide) (fun h => ?_) (fun h => ?_)
    · refine J_mask [true, true, true, true, true, false, false, false] ?_
      exact J_mono (by show 615 + x4.toNatClampNeg + 1 + 0 + 0 ≤ 615 + x4.toNatClampNeg + 1; omega) (by show 9696 + 2 * x4.toNatClampNeg + 6 + 0 + 0 ≤ 9696 + 2 * x4.toNatClampNeg + 6; omega) <| j_L_law_507 hst N x0 x1 x2 x3 x4 r8.2 h0 hL23
    · refine J_aload_n rfl rfl (show Dc Y_L_law 495 (.aload_n 3) 1 496 from ⟨by decide +kernel, rfl⟩) ?_
      refine J_iconst (0 : Int32) rfl (show Dc Y_L_law 496 (.iconst 0) 1 497 from ⟨by decide +kernel, rfl⟩) ?_
      refine J_lald (show Dc Y_L_law 497 (.laload) 1 498 from ⟨by decide +kernel, rfl⟩) (fun v10 => ?_)
      refine J_iload rfl (show Dc Y_L_law 498 (.iload 6) 2 500 from ⟨by decide +kernel, rfl⟩) ?_
      refine J_i2l (show Dc Y_L_law 500 (.i2l) 1 501 from ⟨by decide +kernel, rfl⟩) ?_
      refine J_lcmp (show Dc Y_L_law 501 (.lcmp) 1 502 from ⟨by decide +kernel, rfl⟩) ?_
      refine J_if_eq (tg := 507) (show Dc Y_L_law 502 (.ifCond .eq 5) 3 505 from ⟨by decide +kernel, rfl⟩) (by decide) (fun h => ?_) (fun h => ?_)
      · refine J_mask [true, true, true, true, true, false, false, false] ?_
        exact J_mono (by show 615 + x4.toNatClampNeg + 1 + 0 + 0 ≤ 615 + x4.toNatClampNeg + 1; omega) (by show 9696 + 2 * x4.toNatClampNeg + 6 + 0 + 0 ≤ 9696 + 2 * x4.toNatClampNeg + 6; omega) <| j_L_law_507 hst N x0 x1 x2 x3 x4 r8.2 h0 hL23
      · refine J_map (f := Sum.inr) (fun _ h => h) ?_
        refine J_iconst (0 : Int32) rfl (show Dc Y_L_law 505 (.iconst 0) 1 506 from ⟨by decide +kernel, rfl⟩) ?_
        exact J_retz rfl (show Dc Y_L_law 506 (.ireturn) 1 507 from ⟨by decide +kernel, rfl⟩) rfl (h0 _ _) (by show 615 + x4.toNatClampNeg + 1 + 0 + 0 ≤ 601024; omega) (by show 9696 + 2 * x4.toNatClampNeg + 6 + 0 + 0 ≤ 7293034; omega)
  · refine J_map (f := Sum.inr) (fun _ h => h) ?_
    refine J_iconst (0 : Int32) rfl (show Dc Y_L_law 488 (.iconst 0) 1 489 from ⟨by decide +kernel, rfl⟩) ?_
    exact J_retz rfl (show Dc Y_L_law 489 (.ireturn) 1 490 from ⟨by decide +kernel, rfl⟩) rfl (h0 _ _) (by show 615 + x4.toNatClampNeg + 1 + 0 + 0 ≤ 601024; omega) (by show 9696 + 2 * x4.toNatClampNeg + 6 + 0 + 0 ≤ 7293034; omega)

theorem j_L_law_510 {X : ZX} (hst : (xl X).stackTraces = false) (N : Nat) (x0 : Nat) (x1 : Nat) (x2 : Nat) (x3 : Nat) (x4 : Int32)   (g : ZS) {K : ((Int32 × ZS) ⊕ (Int32 × ZS)) → Prop} (h0 : ∀ v g, K (.inr (v, g)) → xK X (some (.int v)) g) (hL23 : ∀ s, K (.inl s) → zG Y_L_law X (615 + s.1.toNatClampNeg) (9696 + 2 * s.1.toNatClampNeg) 23 [some (.ref x0), some (.ref x1), some (.ref x2), some (.ref x3), some (.int s.1), none, none, none] [] s.2) : J Y_L_law X (615 + x4.toNatClampNeg) (9696 + 2 * x4.toNatClampNeg) 510 [some (.ref x0), some (.ref x1), some (.ref x2), some (.ref x3), some (.int x4), none, none, none] [] g (f_L_law_510 N x0 x1 x2 x3 x4 g) K := by
  unfold f_L_law_510
  refine J_cap (fun hi => ?_)
  refine J_aload_n rfl rfl (show Dc Y_L_law 510 (.aload_n 1) 1 511 from ⟨by decide +kernel, rfl⟩) ?_
  refine J_aload_n rfl rfl (show Dc Y_L_law 511 (.aload_n 0) 1 512 from ⟨by decide +kernel, rfl⟩) ?_
  refine J_iload rfl (show Dc Y_L_law 512 (.iload 4) 2 514 from ⟨by decide +kernel, rfl⟩) ?_
  refine J_iconst (1 : Int32) rfl (show Dc Y_L_law 514 (.iconst 1) 1 515 from ⟨by decide +kernel, rfl⟩) ?_
  refine J_iadd (show Dc Y_L_law 515 (.iadd) 1 516 from ⟨by decide +kernel, rfl⟩) ?_
  refine J_sald (show Dc Y_L_law 516 (.iaload) 1 517 from ⟨by decide +kernel, rfl⟩) (fun v1 => ?_)
  refine J_aload_n rfl rfl (show Dc Y_L_law 517 (.aload_n 0) 1 518 from ⟨by decide +kernel, rfl⟩) ?_
  refine J_iload rfl (show Dc Y_L_law 518 (.iload 4) 2 520 from ⟨by decide +kernel, rfl⟩) ?_
  refine J_iconst (2 : Int32) rfl (show Dc Y_L_law 520 (.iconst 2) 1 521 from ⟨by decide +kernel, rfl⟩) ?_
  refine J_iadd (show Dc Y_L_law 521 (.iadd) 1 522 from ⟨by decide +kernel, rfl⟩) ?_
  refine J_sald (show Dc Y_L_law 522 (.iaload) 1 523 from ⟨by decide +kernel, rfl⟩) (fun v2 => ?_)
  refine J_callVi (fun r => r) (fun _ => g) (show Dc Y_L_law 523 (.invokevirtual 67) 3 526 from ⟨by decide +kernel, rfl⟩) w_m_RL_67 w_in_X11_said rfl w_se_X11_said w_cw_X11_said (c_X11_said x1 v1 v2 g) rfl rfl (by decide) (Nat.le_of_ble_eq_true rfl) (by show 615 + x4.toNatClampNeg + 0 ≤ 601024; omega) (by show 9696 + 2 * x4.toNatClampNeg + 0 ≤ 7293034; omega) (fun v3 => ?_)
  refine J_aload_n rfl rfl (show Dc Y_L_law 526 (.aload_n 2) 1 527 from ⟨by decide +kernel, rfl⟩) ?_
  refine J_aload_n rfl rfl (show Dc Y_L_law 527 (.aload_n 0) 1 528 from ⟨by decide +kernel, rfl⟩) ?_
  refine J_iload rfl (show Dc Y_L_law 528 (.iload 4) 2 530 from ⟨by decide +kernel, rfl⟩) ?_
  refine J_iconst (1 : Int32) rfl (show Dc Y_L_law 530 (.iconst 1) 1 531 from ⟨by decide +kernel, rfl⟩) ?_
  refine J_iadd (show Dc Y_L_law 531 (.iadd) 1 532 from ⟨by decide +kernel, rfl⟩) ?_
  refine J_sald (show Dc Y_L_law 532 (.iaload) 1 533 from ⟨by decide +kernel, rfl⟩) (fun v4 => ?_)
  refine J_aload_n rfl rfl (show Dc Y_L_law 533 (.aload_n 0) 1 534 from ⟨by decide +kernel, rfl⟩) ?_
  refine J_iload rfl (show Dc Y_L_law 534 (.iload 4) 2 536 from ⟨by decide +kernel, rfl⟩) ?_
  refine J_iconst (2 : Int32) rfl (show Dc Y_L_law 536 (.iconst 2) 1 537 from ⟨by decide +kernel, rfl⟩) ?_
  refine J_iadd (show Dc Y_L_law 537 (.iadd) 1 538 from ⟨by decide +kernel, rfl⟩) ?_
  refine J_sald (show Dc Y_L_law 538 (.iaload) 1 539 from ⟨by decide +kernel, rfl⟩) (fun v5 => ?_)
  refine J_callVi (fun r => r.1) (fun r => r.2) (show Dc Y_L_law 539 (.invokevirtual 70) 3 542 from ⟨by decide +kernel, rfl⟩) w_m_RL_70 w_in_X12_said rfl w_se_X12_said w_cw_X12_said (c_X12_said x2 v4 v5 g) rfl rfl (by decide) (Nat.le_of_ble_eq_true rfl) (by show 615 + x4.toNatClampNeg + 0 + 0 ≤ 601024; omega) (by show 9696 + 2 * x4.toNatClampNeg + 0 + 0 ≤ 7293034; omega) (fun r6 => ?_)
  refine J_icmp_eq (tg := 1673) (show Dc Y_L_law 542 (.if_icmp .eq 1131) 3 545 from ⟨by decide +kernel, rfl⟩) (by decide) (fun h => ?_) (fun h => ?_)
  · exact J_mono (by show 615 + x4.toNatClampNeg + 0 + 0 ≤ 615 + x4.toNatClampNeg + 1; omega) (by show 9696 + 2 * x4.toNatClampNeg + 0 + 0 ≤ 9696 + 2 * x4.toNatClampNeg + 6; omega) <| j_L_law_1673 hst N x0 x1 x2 x3 x4 r6.2 h0 hL23
  · refine J_map (f := Sum.inr) (fun _ h => h) ?_
    refine J_iconst (0 : Int32) rfl (show Dc Y_L_law 545 (.iconst 0) 1 546 from ⟨by decide +kernel, rfl⟩) ?_
    exact J_retz rfl (show Dc Y_L_law 546 (.ireturn) 1 547 from ⟨by decide +kernel, rfl⟩) rfl (h0 _ _) (by show 615 + x4.toNatClampNeg + 0 + 0 ≤ 601024; omega) (by show 9696 + 2 * x4.toNatClampNeg + 0 + 0 ≤ 7293034; omega)

theorem j_L_law_547 {X : ZX} (hst : (xl X).stackTraces = false) (N : Nat) (x0 : Nat) (x1 : Nat) (x2 : Nat) (x3 : Nat) (x4 : Int32)   (g : ZS) {K : ((Int32 × ZS) ⊕ (Int32 × ZS)) → Prop} (h0 : ∀ v g, K (.inr (v, g)) → xK X (some (.int v)) g) (hL23 : ∀ s, K (.inl s) → zG Y_L_law X (615 + s.1.toNatClampNeg) (9696 + 2 * s.1.toNatClampNeg) 23 [some (.ref x0), some (.ref x1), some (.ref x2), some (.ref x3), some (.int s.1), none, none, none] [] s.2) : J Y_L_law X (615 + x4.toNatClampNeg) (9696 + 2 * x4.toNatClampNeg) 547 [some (.ref x0), some (.ref x1), some (.ref x2), some (.ref x3), some (.int x4), none, none, none] [] g (f_L_law_547 N x0 x1 x2 x3 x4 g) K := by
  unfold f_L_law_547
  refine J_cap (fun hi => ?_)
  refine J_aload_n rfl rfl (show Dc Y_L_law 547 (.aload_n 1) 1 548 from ⟨by decide +kernel, rfl⟩) ?_
  refine J_aload_n rfl rfl (show Dc Y_L_law 548 (.aload_n 0) 1 549 from ⟨by decide +kernel, rfl⟩) ?_
  refine J_iload rfl (show Dc Y_L_law 549 (.iload 4) 2 551 from ⟨by decide +kernel, rfl⟩) ?_
  refine J_iconst (1 : Int32) rfl (show Dc Y_L_law 551 (.iconst 1) 1 552 from ⟨by decide +kernel, rfl⟩) ?_
  refine J_iadd (show Dc Y_L_law 552 (.iadd) 1 553 from ⟨by decide +kernel, rfl⟩) ?_
  refine J_sald (show Dc Y_L_law 553 (.iaload) 1 554 from ⟨by decide +kernel, rfl⟩) (fun v1 => ?_)
  refine J_aload_n rfl rfl (show Dc Y_L_law 554 (.aload_n 0) 1 555 from ⟨by decide +kernel, rfl⟩) ?_
  refine J_iload rfl (show Dc Y_L_law 555 (.iload 4) 2 557 from ⟨by decide +kernel, rfl⟩) ?_
  refine J_iconst (2 : Int32) rfl (show Dc Y_L_law 557 (.iconst 2) 1 558 from ⟨by decide +kernel, rfl⟩) ?_
  refine J_iadd (show Dc Y_L_law 558 (.iadd) 1 559 from ⟨by decide +kernel, rfl⟩) ?_
  refine J_sald (show Dc Y_L_law 559 (.iaload) 1 560 from ⟨by decide +kernel, rfl⟩) (fun v2 => ?_)
  refine J_aload_n rfl rfl (show Dc Y_L_law 560 (.aload_n 0) 1 561 from ⟨by decide +kernel, rfl⟩) ?_
  refine J_iload rfl (show Dc Y_L_law 561 (.iload 4) 2 563 from ⟨by decide +kernel, rfl⟩) ?_
  refine J_iconst (3 : Int32) rfl (show Dc Y_L_law 563 (.iconst 3) 1 564 from ⟨by decide +kernel, rfl⟩) ?_
  refine J_iadd (show Dc Y_L_law 564 (.iadd) 1 565 from ⟨by decide +kernel, rfl⟩) ?_
  refine J_sald (show Dc Y_L_law 565 (.iaload) 1 566 from ⟨by decide +kernel, rfl⟩) (fun v3 => ?_)
  refine J_aload_n rfl rfl (show Dc Y_L_law 566 (.aload_n 0) 1 567 from ⟨by decide +kernel, rfl⟩) ?_
  refine J_iload rfl (show Dc Y_L_law 567 (.iload 4) 2 569 from ⟨by decide +kernel, rfl⟩) ?_
  refine J_iconst (4 : Int32) rfl (show Dc Y_L_law 569 (.iconst 4) 1 570 from ⟨by decide +kernel, rfl⟩) ?_
  refine J_iadd (show Dc Y_L_law 570 (.iadd) 1 571 from ⟨by decide +kernel, rfl⟩) ?_
  refine J_sald (show Dc Y_L_law 571 (.iaload) 1 572 from ⟨by decide +kernel, rfl⟩) (fun v4 => ?_)
  refine J_callVi (fun r => r.1) (fun r => r.2) (show Dc Y_L_law 572 (.invokevirtual 71) 3 575 from ⟨by decide +kernel, rfl⟩) w_m_RL_71 w_in_X11_sheet rfl w_se_X11_sheet w_cw_X11_sheet (c_X11_sheet N x1 v1 v2 v3 v4 g) rfl rfl (by decide) (Nat.le_of_ble_eq_true rfl) (by show 615 + x4.toNatClampNeg + 0 ≤ 601024; omega) (by show 9696 + 2 * x4.toNatClampNeg + 0 ≤ 7293034; omega) (fun r5 => ?_)
  refine J_aload_n rfl rfl (show Dc Y_L_law 575 (.aload_n 2) 1 576 from ⟨by decide +kernel, rfl⟩) ?_
  refine J_aload_n rfl rfl (show Dc Y_L_law 576 (.aload_n 0) 1 577 from ⟨by decide +kernel, rfl⟩) ?_
  refine J_iload rfl (show Dc Y_L_law 577 (.iload 4) 2 579 from ⟨by decide +kernel, rfl⟩) ?_
  refine J_iconst (1 : Int32) rfl (show Dc Y_L_law 579 (.iconst 1) 1 580 from ⟨by decide +kernel, rfl⟩) ?_
  refine J_iadd (show Dc Y_L_law 580 (.iadd) 1 581 from ⟨by decide +kernel, rfl⟩) ?_
  refine J_sald (show Dc Y_L_law 581 (.iaload) 1 582 from ⟨by decide +kernel, rfl⟩) (fun v6 => ?_)
  refine J_aload_n rfl rfl (show Dc Y_L_law 582 (.aload_n 0) 1 583 from ⟨by decide +kernel, rfl⟩) ?_
  refine J_iload rfl (show Dc Y_L_law 583 (.iload 4) 2 585 from ⟨by decide +kernel, rfl⟩) ?_
  refine J_iconst (2 : Int32) rfl (show Dc Y_L_law 585 (.iconst 2) 1 586 from ⟨by decide +kernel, rfl⟩) ?_
  refine J_iadd (show Dc Y_L_law 586 (.iadd) 1 587 from ⟨by decide +kernel, rfl⟩) ?_
  refine J_sald (show Dc Y_L_law 587 (.iaload) 1 588 from ⟨by decide +kernel, rfl⟩) (fun v7 => ?_)
  refine J_aload_n rfl rfl (show Dc Y_L_law 588 (.aload_n 0) 1 589 from ⟨by decide +kernel, rfl⟩) ?_
  refine J_iload rfl (show Dc Y_L_law 589 (.iload 4) 2 591 from ⟨by decide +kernel, rfl⟩) ?_
  refine J_iconst (3 : Int32) rfl (show Dc Y_L_law 591 (.iconst 3) 1 592 from ⟨by decide +kernel, rfl⟩) ?_
  refine J_iadd (show Dc Y_L_law 592 (.iadd) 1 593 from ⟨by decide +kernel, rfl⟩) ?_
  refine J_sald (show Dc Y_L_law 593 (.iaload) 1 594 from ⟨by decide +kernel, rfl⟩) (fun v8 => ?_)
  refine J_aload_n rfl rfl (show Dc Y_L_law 594 (.aload_n 0) 1 595 from ⟨by decide +kernel, rfl⟩) ?_
  refine J_iload rfl (show Dc Y_L_law 595 (.iload 4) 2 597 from ⟨by decide +kernel, rfl⟩) ?_
  refine J_iconst (4 : Int32) rfl (show Dc Y_L_law 597 (.iconst 4) 1 598 from ⟨by decide +kernel, rfl⟩) ?_
  refine J_iadd (show Dc Y_L_law 598 (.iadd) 1 599 from ⟨by decide +kernel, rfl⟩) ?_
  refine J_sald (show Dc Y_L_law 599 (.iaload) 1 600 from ⟨by decide +kernel, rfl⟩) (fun v9 => ?_)
  refine J_callVi (fun r => r.1) (fun r => r.2) (show Dc Y_L_law 600 (.invokevirtual 75) 3 603 from ⟨by decide +kernel, rfl⟩) w_m_RL_75 w_in_X12_sheet rfl w_se_X12_sheet w_cw_X12_sheet (c_X12_sheet N x2 v6 v7 v8 v9 r5.2) rfl rfl (by decide) (Nat.le_of_ble_eq_true rfl) (by show 615 + x4.toNatClampNeg + 0 + 0 ≤ 601024; omega) (by show 9696 + 2 * x4.toNatClampNeg + 0 + 0 ≤ 7293034; omega) (fun r10 => ?_)
  refine J_icmp_eq (tg := 1673) (show Dc Y_L_law 603 (.if_icmp .eq 1070) 3 606 from ⟨by decide +kernel, rfl⟩) (by decide) (fun h => ?_) (fun h => ?_)
  · exact J_mono (by show 615 + x4.toNatClampNeg + 0 + 0 ≤ 615 + x4.toNatClampNeg + 1; omega) (by show 9696 + 2 * x4.toNatClampNeg + 0 + 0 ≤ 9696 + 2 * x4.toNatClampNeg + 6; omega) <| j_L_law_1673 hst N x0 x1 x2 x3 x4 r10.2 h0 hL23
  · refine J_map (f := Sum.inr) (fun _ h => h) ?_
    refine J_iconst (0 : Int32) rfl (show Dc Y_L_law 606 (.iconst 0) 1 607 from ⟨by decide +kernel, rfl⟩) ?_
    exact J_retz rfl (show Dc Y_L_law 607 (.ireturn) 1 608 from ⟨by decide +kernel, rfl⟩) rfl (h0 _ _) (by show 615 + x4.toNatClampNeg + 0 + 0 ≤ 601024; omega) (by show 9696 + 2 * x4.toNatClampNeg + 0 + 0 ≤ 7293034; omega)

theorem j_L_law_608 {X : ZX} (hst : (xl X).stackTraces = false) (N : Nat) (x0 : Nat) (x1 : Nat) (x2 : Nat) (x3 : Nat) (x4 : Int32)   (g : ZS) {K : ((Int32 × ZS) ⊕ (Int32 × ZS)) → Prop} (h0 : ∀ v g, K (.inr (v, g)) → xK X (some (.int v)) g) (hL23 : ∀ s, K (.inl s) → zG Y_L_law X (615 + s.1.toNatClampNeg) (9696 + 2 * s.1.toNatClampNeg) 23 [some (.ref x0), some (.ref x1), some (.ref x2), some (.ref x3), some (.int s.1), none, none, none] [] s.2) : J Y_L_law X (615 + x4.toNatClampNeg) (9696 + 2 * x4.toNatClampNeg) 608 [some (.ref x0), some (.ref x1), some (.ref x2), some (.ref x3), some (.int x4), none, none, none] [] g (f_L_law_608 N x0 x1 x2 x3 x4 g) K := by
  unfold f_L_law_608
  refine J_cap (fun hi => ?_)
  refine J_aload_n rfl rfl (show Dc Y_L_law 608 (.aload_n 1) 1 609 from ⟨by decide +kernel, rfl⟩) ?_
  refine J_aload_n rfl rfl (show Dc Y_L_law 609 (.aload_n 0) 1 610 from ⟨by decide +kernel, rfl⟩) ?_
  refine J_iload rfl (show Dc Y_L_law 610 (.iload 4) 2 612 from ⟨by decide +kernel, rfl⟩) ?_
  refine J_iconst (1 : Int32) rfl (show Dc Y_L_law 612 (.iconst 1) 1 613 from ⟨by decide +kernel, rfl⟩) ?_
  refine J_iadd (show Dc Y_L_law 613 (.iadd) 1 614 from ⟨by decide +kernel, rfl⟩) ?_
  refine J_sald (show Dc Y_L_law 614 (.iaload) 1 615 from ⟨by decide +kernel, rfl⟩) (fun v1 => ?_)
  refine J_callVi (fun r => r.1) (fun r => r.2) (show Dc Y_L_law 615 (.invokevirtual 76) 3 618 from ⟨by decide +kernel, rfl⟩) w_m_RL_76 w_in_X11_days rfl w_se_X11_days w_cw_X11_days (c_X11_days N x1 v1 g) rfl rfl (by decide) (Nat.le_of_ble_eq_true rfl) (by show 615 + x4.toNatClampNeg + 0 ≤ 601024; omega) (by show 9696 + 2 * x4.toNatClampNeg + 0 ≤ 7293034; omega) (fun r2 => ?_)
  refine J_aload_n rfl rfl (show Dc Y_L_law 618 (.aload_n 2) 1 619 from ⟨by decide +kernel, rfl⟩) ?_
  refine J_aload_n rfl rfl (show Dc Y_L_law 619 (.aload_n 0) 1 620 from ⟨by decide +kernel, rfl⟩) ?_
  refine J_iload rfl (show Dc Y_L_law 620 (.iload 4) 2 622 from ⟨by decide +kernel, rfl⟩) ?_
  refine J_iconst (1 : Int32) rfl (show Dc Y_L_law 622 (.iconst 1) 1 623 from ⟨by decide +kernel, rfl⟩) ?_
  refine J_iadd (show Dc Y_L_law 623 (.iadd) 1 624 from ⟨by decide +kernel, rfl⟩) ?_
  refine J_sald (show Dc Y_L_law 624 (.iaload) 1 625 from ⟨by decide +kernel, rfl⟩) (fun v3 => ?_)
  refine J_callVi (fun r => r.1) (fun r => r.2) (show Dc Y_L_law 625 (.invokevirtual 79) 3 628 from ⟨by decide +kernel, rfl⟩) w_m_RL_79 w_in_X12_days rfl w_se_X12_days w_cw_X12_days (c_X12_days N x2 v3 r2.2) rfl rfl (by decide) (Nat.le_of_ble_eq_true rfl) (by show 615 + x4.toNatClampNeg + 0 + 0 ≤ 601024; omega) (by show 9696 + 2 * x4.toNatClampNeg + 0 + 0 ≤ 7293034; omega) (fun r4 => ?_)
  refine J_icmp_eq (tg := 1673) (show Dc Y_L_law 628 (.if_icmp .eq 1045) 3 631 from ⟨by decide +kernel, rfl⟩) (by decide) (fun h => ?_) (fun h => ?_)
  · exact J_mono (by show 615 + x4.toNatClampNeg + 0 + 0 ≤ 615 + x4.toNatClampNeg + 1; omega) (by show 9696 + 2 * x4.toNatClampNeg + 0 + 0 ≤ 9696 + 2 * x4.toNatClampNeg + 6; omega) <| j_L_law_1673 hst N x0 x1 x2 x3 x4 r4.2 h0 hL23
  · refine J_map (f := Sum.inr) (fun _ h => h) ?_
    refine J_iconst (0 : Int32) rfl (show Dc Y_L_law 631 (.iconst 0) 1 632 from ⟨by decide +kernel, rfl⟩) ?_
    exact J_retz rfl (show Dc Y_L_law 632 (.ireturn) 1 633 from ⟨by decide +kernel, rfl⟩) rfl (h0 _ _) (by show 615 + x4.toNatClampNeg + 0 + 0 ≤ 601024; omega) (by show 9696 + 2 * x4.toNatClampNeg + 0 + 0 ≤ 7293034; omega)

theorem j_L_law_633 {X : ZX} (hst : (xl X).stackTraces = false) (N : Nat) (x0 : Nat) (x1 : Nat) (x2 : Nat) (x3 : Nat) (x4 : Int32)   (g : ZS) {K : ((Int32 × ZS) ⊕ (Int32 × ZS)) → Prop} (h0 : ∀ v g, K (.inr (v, g)) → xK X (some (.int v)) g) (hL23 : ∀ s, K (.inl s) → zG Y_L_law X (615 + s.1.toNatClampNeg) (9696 + 2 * s.1.toNatClampNeg) 23 [some (.ref x0), some (.ref x1), some (.ref x2), some (.ref x3), some (.int s.1), none, none, none] [] s.2) : J Y_L_law X (615 + x4.toNatClampNeg) (9696 + 2 * x4.toNatClampNeg) 633 [some (.ref x0), some (.ref x1), some (.ref x2), some (.ref x3), some (.int x4), none, none, none] [] g (f_L_law_633 N x0 x1 x2 x3 x4 g) K := by
  unfold f_L_law_633
  refine J_cap (fun hi => ?_)
  refine J_aload_n rfl rfl (show Dc Y_L_law 633 (.aload_n 1) 1 634 from ⟨by decide +kernel, rfl⟩) ?_
  refine J_aload_n rfl rfl (show Dc Y_L_law 634 (.aload_n 0) 1 635 from ⟨by decide +kernel, rfl⟩) ?_
  refine J_iload rfl (show Dc Y_L_law 635 (.iload 4) 2 637 from ⟨by decide +kernel, rfl⟩) ?_
  refine J_iconst (1 : Int32) rfl (show Dc Y_L_law 637 (.iconst 1) 1 638 from ⟨by decide +kernel, rfl⟩) ?_
  refine J_iadd (show Dc Y_L_law 638 (.iadd) 1 639 from ⟨by decide +kernel, rfl⟩) ?_
  refine J_sald (show Dc Y_L_law 639 (.iaload) 1 640 from ⟨by decide +kernel, rfl⟩) (fun v1 => ?_)
  refine J_aload_n rfl rfl (show Dc Y_L_law 640 (.aload_n 0) 1 641 from ⟨by decide +kernel, rfl⟩) ?_
  refine J_iload rfl (show Dc Y_L_law 641 (.iload 4) 2 643 from ⟨by decide +kernel, rfl⟩) ?_
  refine J_iconst (2 : Int32) rfl (show Dc Y_L_law 643 (.iconst 2) 1 644 from ⟨by decide +kernel, rfl⟩) ?_
  refine J_iadd (show Dc Y_L_law 644 (.iadd) 1 645 from ⟨by decide +kernel, rfl⟩) ?_
  refine J_sald (show Dc Y_L_law 645 (.iaload) 1 646 from ⟨by decide +kernel, rfl⟩) (fun v2 => ?_)
  refine J_callVi (fun r => r.1) (fun r => r.2) (show Dc Y_L_law 646 (.invokevirtual 80) 3 649 from ⟨by decide +kernel, rfl⟩) w_m_RL_80 w_in_X11_move rfl w_se_X11_move w_cw_X11_move (c_X11_move N x1 v1 v2 g) rfl rfl (by decide) (Nat.le_of_ble_eq_true rfl) (by show 615 + x4.toNatClampNeg + 0 ≤ 601024; omega) (by show 9696 + 2 * x4.toNatClampNeg + 0 ≤ 7293034; omega) (fun r3 => ?_)
  refine J_aload_n rfl rfl (show Dc Y_L_law 649 (.aload_n 2) 1 650 from ⟨by decide +kernel, rfl⟩) ?_
  refine J_aload_n rfl rfl (show Dc Y_L_law 650 (.aload_n 0) 1 651 from ⟨by decide +kernel, rfl⟩) ?_
  refine J_iload rfl (show Dc Y_L_law 651 (.iload 4) 2 653 from ⟨by decide +kernel, rfl⟩) ?_
  refine J_iconst (1 : Int32) rfl (show Dc Y_L_law 653 (.iconst 1) 1 654 from ⟨by decide +kernel, rfl⟩) ?_
  refine J_iadd (show Dc Y_L_law 654 (.iadd) 1 655 from ⟨by decide +kernel, rfl⟩) ?_
  refine J_sald (show Dc Y_L_law 655 (.iaload) 1 656 from ⟨by decide +kernel, rfl⟩) (fun v4 => ?_)
  refine J_aload_n rfl rfl (show Dc Y_L_law 656 (.aload_n 0) 1 657 from ⟨by decide +kernel, rfl⟩) ?_
  refine J_iload rfl (show Dc Y_L_law 657 (.iload 4) 2 659 from ⟨by decide +kernel, rfl⟩) ?_
  refine J_iconst (2 : Int32) rfl (show Dc Y_L_law 659 (.iconst 2) 1 660 from ⟨by decide +kernel, rfl⟩) ?_
  refine J_iadd (show Dc Y_L_law 660 (.iadd) 1 661 from ⟨by decide +kernel, rfl⟩) ?_
  refine J_sald (show Dc Y_L_law 661 (.iaload) 1 662 from ⟨by decide +kernel, rfl⟩) (fun v5 => ?_)
  refine J_callVi (fun r => r.1) (fun r => r.2) (show Dc Y_L_law 662 (.invokevirtual 83) 3 665 from ⟨by decide +kernel, rfl⟩) w_m_RL_83 w_in_X12_move rfl w_se_X12_move w_cw_X12_move (c_X12_move N x2 v4 v5 r3.2) rfl rfl (by decide) (Nat.le_of_ble_eq_true rfl) (by show 615 + x4.toNatClampNeg + 0 + 0 ≤ 601024; omega) (by show 9696 + 2 * x4.toNatClampNeg + 0 + 0 ≤ 7293034; omega) (fun r6 => ?_)
  refine J_icmp_eq (tg := 1673) (show Dc Y_L_law 665 (.if_icmp .eq 1008) 3 668 from ⟨by decide +kernel, rfl⟩) (by decide) (fun h => ?_) (fun h => ?_)
  · exact J_mono (by show 615 + x4.toNatClampNeg + 0 + 0 ≤ 615 + x4.toNatClampNeg + 1; omega) (by show 9696 + 2 * x4.toNatClampNeg + 0 + 0 ≤ 9696 + 2 * x4.toNatClampNeg + 6; omega) <| j_L_law_1673 hst N x0 x1 x2 x3 x4 r6.2 h0 hL23
  · refine J_map (f := Sum.inr) (fun _ h => h) ?_
    refine J_iconst (0 : Int32) rfl (show Dc Y_L_law 668 (.iconst 0) 1 669 from ⟨by decide +kernel, rfl⟩) ?_
    exact J_retz rfl (show Dc Y_L_law 669 (.ireturn) 1 670 from ⟨by decide +kernel, rfl⟩) rfl (h0 _ _) (by show 615 + x4.toNatClampNeg + 0 + 0 ≤ 601024; omega) (by show 9696 + 2 * x4.toNatClampNeg + 0 + 0 ≤ 7293034; omega)

theorem j_L_law_670 {X : ZX} (hst : (xl X).stackTraces = false) (N : Nat) (x0 : Nat) (x1 : Nat) (x2 : Nat) (x3 : Nat) (x4 : Int32)   (g : ZS) {K : ((Int32 × ZS) ⊕ (Int32 × ZS)) → Prop} (h0 : ∀ v g, K (.inr (v, g)) → xK X (some (.int v)) g) (hL23 : ∀ s, K (.inl s) → zG Y_L_law X (615 + s.1.toNatClampNeg) (9696 + 2 * s.1.toNatClampNeg) 23 [some (.ref x0), some (.ref x1), some (.ref x2), some (.ref x3), some (.int s.1), none, none, none] [] s.2) : J Y_L_law X (615 + x4.toNatClampNeg) (9696 + 2 * x4.toNatClampNeg) 670 [some (.ref x0), some (.ref x1), some (.ref x2), some (.ref x3), some (.int x4), none, none, none] [] g (f_L_law_670 N x0 x1 x2 x3 x4 g) K := by
  unfold f_L_law_670
  refine J_cap (fun hi => ?_)
  refine J_aload_n rfl rfl (show Dc Y_L_law 670 (.aload_n 1) 1 671 from ⟨by decide +kernel, rfl⟩) ?_
  refine J_aload_n rfl rfl (show Dc Y_L_law 671 (.aload_n 0) 1 672 from ⟨by decide +kernel, rfl⟩) ?_
  refine J_iload rfl (show Dc Y_L_law 672 (.iload 4) 2 674 from ⟨by decide +kernel, rfl⟩) ?_
  refine J_iconst (1 : Int32) rfl (show Dc Y_L_law 674 (.iconst 1) 1 675 from ⟨by decide +kernel, rfl⟩) ?_
  refine J_iadd (show Dc Y_L_law 675 (.iadd) 1 676 from ⟨by decide +kernel, rfl⟩) ?_
  refine J_sald (show Dc Y_L_law 676 (.iaload) 1 677 from ⟨by decide +kernel, rfl⟩) (fun v1 => ?_)
  refine J_callVi (fun r => r.1) (fun r => r.2) (show Dc Y_L_law 677 (.invokevirtual 84) 3 680 from ⟨by decide +kernel, rfl⟩) w_m_RL_84 w_in_X11_cloth rfl w_se_X11_cloth w_cw_X11_cloth (c_X11_cloth N x1 v1 g) rfl rfl (by decide) (Nat.le_of_ble_eq_true rfl) (by show 615 + x4.toNatClampNeg + 0 ≤ 601024; omega) (by show 9696 + 2 * x4.toNatClampNeg + 0 ≤ 7293034; omega) (fun r2 => ?_)
  refine J_aload_n rfl rfl (show Dc Y_L_law 680 (.aload_n 2) 1 681 from ⟨by decide +kernel, rfl⟩) ?_
  refine J_aload_n rfl rfl (show Dc Y_L_law 681 (.aload_n 0) 1 682 from ⟨by decide +kernel, rfl⟩) ?_
  refine J_iload rfl (show Dc Y_L_law 682 (.iload 4) 2 684 from ⟨by decide +kernel, rfl⟩) ?_
  refine J_iconst (1 : Int32) rfl (show Dc Y_L_law 684 (.iconst 1) 1 685 from ⟨by decide +kernel, rfl⟩) ?_
  refine J_iadd (show Dc Y_L_law 685 (.iadd) 1 686 from ⟨by decide +kernel, rfl⟩) ?_
  refine J_sald (show Dc Y_L_law 686 (.iaload) 1 687 from ⟨by decide +kernel, rfl⟩) (fun v3 => ?_)
  refine J_callVi (fun r => r.1) (fun r => r.2) (show Dc Y_L_law 687 (.invokevirtual 87) 3 690 from ⟨by decide +kernel, rfl⟩) w_m_RL_87 w_in_X12_cloth rfl w_se_X12_cloth w_cw_X12_cloth (c_X12_cloth N x2 v3 r2.2) rfl rfl (by decide) (Nat.le_of_ble_eq_true rfl) (by show 615 + x4.toNatClampNeg + 0 + 0 ≤ 601024; omega) (by show 9696 + 2 * x4.toNatClampNeg + 0 + 0 ≤ 7293034; omega) (fun r4 => ?_)
  refine J_icmp_eq (tg := 1673) (show Dc Y_L_law 690 (.if_icmp .eq 983) 3 693 from ⟨by decide +kernel, rfl⟩) (by decide) (fun h => ?_) (fun h => ?_)
  · exact J_mono (by show 615 + x4.toNatClampNeg + 0 + 0 ≤ 615 + x4.toNatClampNeg + 1; omega) (by show 9696 + 2 * x4.toNatClampNeg + 0 + 0 ≤ 9696 + 2 * x4.toNatClampNeg + 6; omega) <| j_L_law_1673 hst N x0 x1 x2 x3 x4 r4.2 h0 hL23
  · refine J_map (f := Sum.inr) (fun _ h => h) ?_
    refine J_iconst (0 : Int32) rfl (show Dc Y_L_law 693 (.iconst 0) 1 694 from ⟨by decide +kernel, rfl⟩) ?_
    exact J_retz rfl (show Dc Y_L_law 694 (.ireturn) 1 695 from ⟨by decide +kernel, rfl⟩) rfl (h0 _ _) (by show 615 + x4.toNatClampNeg + 0 + 0 ≤ 601024; omega) (by show 9696 + 2 * x4.toNatClampNeg + 0 + 0 ≤ 7293034; omega)

theorem j_L_law_695 {X : ZX} (hst : (xl X).stackTraces = false) (N : Nat) (x0 : Nat) (x1 : Nat) (x2 : Nat) (x3 : Nat) (x4 : Int32)   (g : ZS) {K : ((Int32 × ZS) ⊕ (Int32 × ZS)) → Prop} (h0 : ∀ v g, K (.inr (v, g)) → xK X (some (.int v)) g) (hL23 : ∀ s, K (.inl s) → zG Y_L_law X (615 + s.1.toNatClampNeg) (9696 + 2 * s.1.toNatClampNeg) 23 [some (.ref x0), some (.ref x1), some (.ref x2), some (.ref x3), some (.int s.1), none, none, none] [] s.2) : J Y_L_law X (615 + x4.toNatClampNeg) (9696 + 2 * x4.toNatClampNeg) 695 [some (.ref x0), some (.ref x1), some (.ref x2), some (.ref x3), some (.int x4), none, none, none] [] g (f_L_law_695 N x0 x1 x2 x3 x4 g) K := by
  unfold f_L_law_695
  refine J_cap (fun hi => ?_)
  refine J_aload_n rfl rfl (show Dc Y_L_law 695 (.aload_n 1) 1 696 from ⟨by decide +kernel, rfl⟩) ?_
  refine J_aload_n rfl rfl (show Dc Y_L_law 696 (.aload_n 0) 1 697 from ⟨by decide +kernel, rfl⟩) ?_
  refine J_iload rfl (show Dc Y_L_law 697 (.iload 4) 2 699 from ⟨by decide +kernel, rfl⟩) ?_
  refine J_iconst (1 : Int32) rfl (show Dc Y_L_law 699 (.iconst 1) 1 700 from ⟨by decide +kernel, rfl⟩) ?_
  refine J_iadd (show Dc Y_L_law 700 (.iadd) 1 701 from ⟨by decide +kernel, rfl⟩) ?_
  refine J_sald (show Dc Y_L_law 701 (.iaload) 1 702 from ⟨by decide +kernel, rfl⟩) (fun v1 => ?_)
  refine J_aload_n rfl rfl (show Dc Y_L_law 702 (.aload_n 0) 1 703 from ⟨by decide +kernel, rfl⟩) ?_
  refine J_iload rfl (show Dc Y_L_law 703 (.iload 4) 2 705 from ⟨by decide +kernel, rfl⟩) ?_
  refine J_iconst (2 : Int32) rfl (show Dc Y_L_law 705 (.iconst 2) 1 706 from ⟨by decide +kernel, rfl⟩) ?_
  refine J_iadd (show Dc Y_L_law 706 (.iadd) 1 707 from ⟨by decide +kernel, rfl⟩) ?_
  refine J_sald (show Dc Y_L_law 707 (.iaload) 1 708 from ⟨by decide +kernel, rfl⟩) (fun v2 => ?_)
  refine J_callVi (fun r => r.1) (fun r => r.2) (show Dc Y_L_law 708 (.invokevirtual 88) 3 711 from ⟨by decide +kernel, rfl⟩) w_m_RL_88 w_in_X11_teach rfl w_se_X11_teach w_cw_X11_teach (c_X11_teach N x1 v1 v2 g) rfl rfl (by decide) (Nat.le_of_ble_eq_true rfl) (by show 615 + x4.toNatClampNeg + 0 ≤ 601024; omega) (by show 9696 + 2 * x4.toNatClampNeg + 0 ≤ 7293034; omega) (fun r3 => ?_)
  refine J_aload_n rfl rfl (show Dc Y_L_law 711 (.aload_n 2) 1 712 from ⟨by decide +kernel, rfl⟩) ?_
  refine J_aload_n rfl rfl (show Dc Y_L_law 712 (.aload_n 0) 1 713 from ⟨by decide +kernel, rfl⟩) ?_
  refine J_iload rfl (show Dc Y_L_law 713 (.iload 4) 2 715 from ⟨by decide +kernel, rfl⟩) ?_
  refine J_iconst (1 : Int32) rfl (show Dc Y_L_law 715 (.iconst 1) 1 716 from ⟨by decide +kernel, rfl⟩) ?_
  refine J_iadd (show Dc Y_L_law 716 (.iadd) 1 717 from ⟨by decide +kernel, rfl⟩) ?_
  refine J_sald (show Dc Y_L_law 717 (.iaload) 1 718 from ⟨by decide +kernel, rfl⟩) (fun v4 => ?_)
  refine J_aload_n rfl rfl (show Dc Y_L_law 718 (.aload_n 0) 1 719 from ⟨by decide +kernel, rfl⟩) ?_
  refine J_iload rfl (show Dc Y_L_law 719 (.iload 4) 2 721 from ⟨by decide +kernel, rfl⟩) ?_
  refine J_iconst (2 : Int32) rfl (show Dc Y_L_law 721 (.iconst 2) 1 722 from ⟨by decide +kernel, rfl⟩) ?_
  refine J_iadd (show Dc Y_L_law 722 (.iadd) 1 723 from ⟨by decide +kernel, rfl⟩) ?_
  refine J_sald (show Dc Y_L_law 723 (.iaload) 1 724 from ⟨by decide +kernel, rfl⟩) (fun v5 => ?_)
  refine J_callVi (fun r => r.1) (fun r => r.2) (show Dc Y_L_law 724 (.invokevirtual 91) 3 727 from ⟨by decide +kernel, rfl⟩) w_m_RL_91 w_in_X12_teach rfl w_se_X12_teach w_cw_X12_teach (c_X12_teach N x2 v4 v5 r3.2) rfl rfl (by decide) (Nat.le_of_ble_eq_true rfl) (by show 615 + x4.toNatClampNeg + 0 + 0 ≤ 601024; omega) (by show 9696 + 2 * x4.toNatClampNeg + 0 + 0 ≤ 7293034; omega) (fun r6 => ?_)
  refine J_icmp_eq (tg := 1673) (show Dc Y_L_law 727 (.if_icmp .eq 946) 3 730 from ⟨by decide +kernel, rfl⟩) (by decide) (fun h => ?_) (fun h => ?_)
  · exact J_mono (by show 615 + x4.toNatClampNeg + 0 + 0 ≤ 615 + x4.toNatClampNeg + 1; omega) (by show 9696 + 2 * x4.toNatClampNeg + 0 + 0 ≤ 9696 + 2 * x4.toNatClampNeg + 6; omega) <| j_L_law_1673 hst N x0 x1 x2 x3 x4 r6.2 h0 hL23
  · refine J_map (f := Sum.inr) (fun _ h => h) ?_
    refine J_iconst (0 : Int32) rfl (show Dc Y_L_law 730 (.iconst 0) 1 731 from ⟨by decide +kernel, rfl⟩) ?_
    exact J_retz rfl (show Dc Y_L_law 731 (.ireturn) 1 732 from ⟨by decide +kernel, rfl⟩) rfl (h0 _ _) (by show 615 + x4.toNatClampNeg + 0 + 0 ≤ 601024; omega) (by show 9696 + 2 * x4.toNatClampNeg + 0 + 0 ≤ 7293034; omega)

theorem j_L_law_732 {X : ZX} (hst : (xl X).stackTraces = false) (N : Nat) (x0 : Nat) (x1 : Nat) (x2 : Nat) (x3 : Nat) (x4 : Int32)   (g : ZS) {K : ((Int32 × ZS) ⊕ (Int32 × ZS)) → Prop} (h0 : ∀ v g, K (.inr (v, g)) → xK X (some (.int v)) g) (hL23 : ∀ s, K (.inl s) → zG Y_L_law X (615 + s.1.toNatClampNeg) (9696 + 2 * s.1.toNatClampNeg) 23 [some (.ref x0), some (.ref x1), some (.ref x2), some (.ref x3), some (.int s.1), none, none, none] [] s.2) : J Y_L_law X (615 + x4.toNatClampNeg) (9696 + 2 * x4.toNatClampNeg) 732 [some (.ref x0), some (.ref x1), some (.ref x2), some (.ref x3), some (.int x4), none, none, none] [] g (f_L_law_732 N x0 x1 x2 x3 x4 g) K := by
  unfold f_L_law_732
  refine J_cap (fun hi => ?_)
  refine J_aload_n rfl rfl (show Dc Y_L_law 732 (.aload_n 1) 1 733 from ⟨by decide +kernel, rfl⟩) ?_
  refine J_aload_n rfl rfl (show Dc Y_L_law 733 (.aload_n 0) 1 734 from ⟨by decide +kernel, rfl⟩) ?_
  refine J_iload rfl (show Dc Y_L_law 734 (.iload 4) 2 736 from ⟨by decide +kernel, rfl⟩) ?_
  refine J_iconst (1 : Int32) rfl (show Dc Y_L_law 736 (.iconst 1) 1 737 from ⟨by decide +kernel, rfl⟩) ?_
  refine J_iadd (show Dc Y_L_law 737 (.iadd) 1 738 from ⟨by decide +kernel, rfl⟩) ?_
  refine J_sald (show Dc Y_L_law 738 (.iaload) 1 739 from ⟨by decide +kernel, rfl⟩) (fun v1 => ?_)
  refine J_callVi (fun r => r.1) (fun r => r.2) (show Dc Y_L_law 739 (.invokevirtual 92) 3 742 from ⟨by decide +kernel, rfl⟩) w_m_RL_92 w_in_X11_speak rfl w_se_X11_speak w_cw_X11_speak (c_X11_speak N x1 v1 g) rfl rfl (by decide) (Nat.le_of_ble_eq_true rfl) (by show 615 + x4.toNatClampNeg + 0 ≤ 601024; omega) (by show 9696 + 2 * x4.toNatClampNeg + 0 ≤ 7293034; omega) (fun r2 => ?_)
  refine J_aload_n rfl rfl (show Dc Y_L_law 742 (.aload_n 2) 1 743 from ⟨by decide +kernel, rfl⟩) ?_
  refine J_aload_n rfl rfl (show Dc Y_L_law 743 (.aload_n 0) 1 744 from ⟨by decide +kernel, rfl⟩) ?_
  refine J_iload rfl (show Dc Y_L_law 744 (.iload 4) 2 746 from ⟨by decide +kernel, rfl⟩) ?_
  refine J_iconst (1 : Int32) rfl (show Dc Y_L_law 746 (.iconst 1) 1 747 from ⟨by decide +kernel, rfl⟩) ?_
  refine J_iadd (show Dc Y_L_law 747 (.iadd) 1 748 from ⟨by decide +kernel, rfl⟩) ?_
  refine J_sald (show Dc Y_L_law 748 (.iaload) 1 749 from ⟨by decide +kernel, rfl⟩) (fun v3 => ?_)
  refine J_callVi (fun r => r.1) (fun r => r.2) (show Dc Y_L_law 749 (.invokevirtual 95) 3 752 from ⟨by decide +kernel, rfl⟩) w_m_RL_95 w_in_X12_speak rfl w_se_X12_speak w_cw_X12_speak (c_X12_speak N x2 v3 r2.2) rfl rfl (by decide) (Nat.le_of_ble_eq_true rfl) (by show 615 + x4.toNatClampNeg + 0 + 0 ≤ 601024; omega) (by show 9696 + 2 * x4.toNatClampNeg + 0 + 0 ≤ 7293034; omega) (fun r4 => ?_)
  refine J_icmp_eq (tg := 1673) (show Dc Y_L_law 752 (.if_icmp .eq 921) 3 755 from ⟨by decide +kernel, rfl⟩) (by decide) (fun h => ?_) (fun h => ?_)
  · exact J_mono (by show 615 + x4.toNatClampNeg + 0 + 0 ≤ 615 + x4.toNatClampNeg + 1; omega) (by show 9696 + 2 * x4.toNatClampNeg + 0 + 0 ≤ 9696 + 2 * x4.toNatClampNeg + 6; omega) <| j_L_law_1673 hst N x0 x1 x2 x3 x4 r4.2 h0 hL23
  · refine J_map (f := Sum.inr) (fun _ h => h) ?_
    refine J_iconst (0 : Int32) rfl (show Dc Y_L_law 755 (.iconst 0) 1 756 from ⟨by decide +kernel, rfl⟩) ?_
    exact J_retz rfl (show Dc Y_L_law 756 (.ireturn) 1 757 from ⟨by decide +kernel, rfl⟩) rfl (h0 _ _) (by show 615 + x4.toNatClampNeg + 0 + 0 ≤ 601024; omega) (by show 9696 + 2 * x4.toNatClampNeg + 0 + 0 ≤ 7293034; omega)

theorem j_L_law_757 {X : ZX} (hst : (xl X).stackTraces = false) (N : Nat) (x0 : Nat) (x1 : Nat) (x2 : Nat) (x3 : Nat) (x4 : Int32)   (g : ZS) {K : ((Int32 × ZS) ⊕ (Int32 × ZS)) → Prop} (h0 : ∀ v g, K (.inr (v, g)) → xK X (some (.int v)) g) (hL23 : ∀ s, K (.inl s) → zG Y_L_law X (615 + s.1.toNatClampNeg) (9696 + 2 * s.1.toNatClampNeg) 23 [some (.ref x0), some (.ref x1), some (.ref x2), some (.ref x3), some (.int s.1), none, none, none] [] s.2) : J Y_L_law X (615 + x4.toNatClampNeg) (9696 + 2 * x4.toNatClampNeg) 757 [some (.ref x0), some (.ref x1), some (.ref x2), some (.ref x3), some (.int x4), none, none, none] [] g (f_L_law_757 N x0 x1 x2 x3 x4 g) K := by
  unfold f_L_law_757
  refine J_cap (fun hi => ?_)
  refine J_aload_n rfl rfl (show Dc Y_L_law 757 (.aload_n 1) 1 758 from ⟨by decide +kernel, rfl⟩) ?_
  refine J_callVi (fun r => r.1) (fun r => r.2) (show Dc Y_L_law 758 (.invokevirtual 96) 3 761 from ⟨by decide +kernel, rfl⟩) w_m_RL_96 w_in_X11_hush rfl w_se_X11_hush w_cw_X11_hush (c_X11_hush N x1 g) rfl rfl (by decide) (Nat.le_of_ble_eq_true rfl) (by show 615 + x4.toNatClampNeg + 0 ≤ 601024; omega) (by show 9696 + 2 * x4.toNatClampNeg + 0 ≤ 7293034; omega) (fun r1 => ?_)
  refine J_aload_n rfl rfl (show Dc Y_L_law 761 (.aload_n 2) 1 762 from ⟨by decide +kernel, rfl⟩) ?_
  refine J_callVi (fun r => r.1) (fun r => r.2) (show Dc Y_L_law 762 (.invokevirtual 99) 3 765 from ⟨by decide +kernel, rfl⟩) w_m_RL_99 w_in_X12_hush rfl w_se_X12_hush w_cw_X12_hush (c_X12_hush N x2 r1.2) rfl rfl (by decide) (Nat.le_of_ble_eq_true rfl) (by show 615 + x4.toNatClampNeg + 0 + 0 ≤ 601024; omega) (by show 9696 + 2 * x4.toNatClampNeg + 0 + 0 ≤ 7293034; omega) (fun r2 => ?_)
  refine J_icmp_eq (tg := 1673) (show Dc Y_L_law 765 (.if_icmp .eq 908) 3 768 from ⟨by decide +kernel, rfl⟩) (by decide) (fun h => ?_) (fun h => ?_)
  · exact J_mono (by show 615 + x4.toNatClampNeg + 0 + 0 ≤ 615 + x4.toNatClampNeg + 1; omega) (by show 9696 + 2 * x4.toNatClampNeg + 0 + 0 ≤ 9696 + 2 * x4.toNatClampNeg + 6; omega) <| j_L_law_1673 hst N x0 x1 x2 x3 x4 r2.2 h0 hL23
  · refine J_map (f := Sum.inr) (fun _ h => h) ?_
    refine J_iconst (0 : Int32) rfl (show Dc Y_L_law 768 (.iconst 0) 1 769 from ⟨by decide +kernel, rfl⟩) ?_
    exact J_retz rfl (show Dc Y_L_law 769 (.ireturn) 1 770 from ⟨by decide +kernel, rfl⟩) rfl (h0 _ _) (by show 615 + x4.toNatClampNeg + 0 + 0 ≤ 601024; omega) (by show 9696 + 2 * x4.toNatClampNeg + 0 + 0 ≤ 7293034; omega)

theorem j_L_law_770 {X : ZX} (hst : (xl X).stackTraces = false) (N : Nat) (x0 : Nat) (x1 : Nat) (x2 : Nat) (x3 : Nat) (x4 : Int32)   (g : ZS) {K : ((Int32 × ZS) ⊕ (Int32 × ZS)) → Prop} (h0 : ∀ v g, K (.inr (v, g)) → xK X (some (.int v)) g) (hL23 : ∀ s, K (.inl s) → zG Y_L_law X (615 + s.1.toNatClampNeg) (9696 + 2 * s.1.toNatClampNeg) 23 [some (.ref x0), some (.ref x1), some (.ref x2), some (.ref x3), some (.int s.1), none, none, none] [] s.2) : J Y_L_law X (615 + x4.toNatClampNeg) (9696 + 2 * x4.toNatClampNeg) 770 [some (.ref x0), some (.ref x1), some (.ref x2), some (.ref x3), some (.int x4), none, none, none] [] g (f_L_law_770 N x0 x1 x2 x3 x4 g) K := by
  unfold f_L_law_770
  refine J_cap (fun hi => ?_)
  refine J_aload_n rfl rfl (show Dc Y_L_law 770 (.aload_n 1) 1 771 from ⟨by decide +kernel, rfl⟩) ?_
  refine J_callVi (fun r => r.1) (fun r => r.2) (show Dc Y_L_law 771 (.invokevirtual 100) 3 774 from ⟨by decide +kernel, rfl⟩) w_m_RL_100 w_in_X11_trial rfl w_se_X11_trial w_cw_X11_trial (c_X11_trial N x1 g) rfl rfl (by decide) (Nat.le_of_ble_eq_true rfl) (by show 615 + x4.toNatClampNeg + 0 ≤ 601024; omega) (by show 9696 + 2 * x4.toNatClampNeg + 0 ≤ 7293034; omega) (fun r1 => ?_)
  refine J_aload_n rfl rfl (show Dc Y_L_law 774 (.aload_n 2) 1 775 from ⟨by decide +kernel, rfl⟩) ?_
  refine J_callVi (fun r => r.1) (fun r => r.2) (show Dc Y_L_law 775 (.invokevirtual 103) 3 778 from ⟨by decide +kernel, rfl⟩) w_m_RL_103 w_in_X12_trial rfl w_se_X12_trial w_cw_X12_trial (c_X12_trial N x2 r1.2) rfl rfl (by decide) (Nat.le_of_ble_eq_true rfl) (by show 615 + x4.toNatClampNeg + 0 + 0 ≤ 601024; omega) (by show 9696 + 2 * x4.toNatClampNeg + 0 + 0 ≤ 7293034; omega) (fun r2 => ?_)
  refine J_icmp_eq (tg := 1673) (show Dc Y_L_law 778 (.if_icmp .eq 895) 3 781 from ⟨by decide +kernel, rfl⟩) (by decide) (fun h => ?_) (fun h => ?_)
  · exact J_mono (by show 615 + x4.toNatClampNeg + 0 + 0 ≤ 615 + x4.toNatClampNeg + 1; omega) (by show 9696 + 2 * x4.toNatClampNeg + 0 + 0 ≤ 9696 + 2 * x4.toNatClampNeg + 6; omega) <| j_L_law_1673 hst N x0 x1 x2 x3 x4 r2.2 h0 hL23
  · refine J_map (f := Sum.inr) (fun _ h => h) ?_
    refine J_iconst (0 : Int32) rfl (show Dc Y_L_law 781 (.iconst 0) 1 782 from ⟨by decide +kernel, rfl⟩) ?_
    exact J_retz rfl (show Dc Y_L_law 782 (.ireturn) 1 783 from ⟨by decide +kernel, rfl⟩) rfl (h0 _ _) (by show 615 + x4.toNatClampNeg + 0 + 0 ≤ 601024; omega) (by show 9696 + 2 * x4.toNatClampNeg + 0 + 0 ≤ 7293034; omega)

theorem j_L_law_783 {X : ZX} (hst : (xl X).stackTraces = false) (N : Nat) (x0 : Nat) (x1 : Nat) (x2 : Nat) (x3 : Nat) (x4 : Int32)   (g : ZS) {K : ((Int32 × ZS) ⊕ (Int32 × ZS)) → Prop} (h0 : ∀ v g, K (.inr (v, g)) → xK X (some (.int v)) g) (hL23 : ∀ s, K (.inl s) → zG Y_L_law X (615 + s.1.toNatClampNeg) (9696 + 2 * s.1.toNatClampNeg) 23 [some (.ref x0), some (.ref x1), some (.ref x2), some (.ref x3), some (.int s.1), none, none, none] [] s.2) : J Y_L_law X (615 + x4.toNatClampNeg) (9696 + 2 * x4.toNatClampNeg) 783 [some (.ref x0), some (.ref x1), some (.ref x2), some (.ref x3), some (.int x4), none, none, none] [] g (f_L_law_783 N x0 x1 x2 x3 x4 g) K := by
  unfold f_L_law_783
  refine J_cap (fun hi => ?_)
  refine J_aload_n rfl rfl (show Dc Y_L_law 783 (.aload_n 1) 1 784 from ⟨by decide +kernel, rfl⟩) ?_
  refine J_callVi (fun r => r.1) (fun r => r.2) (show Dc Y_L_law 784 (.invokevirtual 104) 3 787 from ⟨by decide +kernel, rfl⟩) w_m_RL_104 w_in_X11_undo rfl w_se_X11_undo w_cw_X11_undo (c_X11_undo N x1 g) rfl rfl (by decide) (Nat.le_of_ble_eq_true rfl) (by show 615 + x4.toNatClampNeg + 0 ≤ 601024; omega) (by show 9696 + 2 * x4.toNatClampNeg + 0 ≤ 7293034; omega) (fun r1 => ?_)
  refine J_aload_n rfl rfl (show Dc Y_L_law 787 (.aload_n 2) 1 788 from ⟨by decide +kernel, rfl⟩) ?_
  refine J_callVi (fun r => r.1) (fun r => r.2) (show Dc Y_L_law 788 (.invokevirtual 107) 3 791 from ⟨by decide +kernel, rfl⟩) w_m_RL_107 w_in_X12_undo rfl w_se_X12_undo w_cw_X12_undo (c_X12_undo N x2 r1.2) rfl rfl (by decide) (Nat.le_of_ble_eq_true rfl) (by show 615 + x4.toNatClampNeg + 0 + 0 ≤ 601024; omega) (by show 9696 + 2 * x4.toNatClampNeg + 0 + 0 ≤ 7293034; omega) (fun r2 => ?_)
  refine J_icmp_eq (tg := 1673) (show Dc Y_L_law 791 (.if_icmp .eq 882) 3 794 from ⟨by decide +kernel, rfl⟩) (by decide) (fun h => ?_) (fun h => ?_)
  · exact J_mono (by show 615 + x4.toNatClampNeg + 0 + 0 ≤ 615 + x4.toNatClampNeg + 1; omega) (by show 9696 + 2 * x4.toNatClampNeg + 0 + 0 ≤ 9696 + 2 * x4.toNatClampNeg + 6; omega) <| j_L_law_1673 hst N x0 x1 x2 x3 x4 r2.2 h0 hL23
  · refine J_map (f := Sum.inr) (fun _ h => h) ?_
    refine J_iconst (0 : Int32) rfl (show Dc Y_L_law 794 (.iconst 0) 1 795 from ⟨by decide +kernel, rfl⟩) ?_
    exact J_retz rfl (show Dc Y_L_law 795 (.ireturn) 1 796 from ⟨by decide +kernel, rfl⟩) rfl (h0 _ _) (by show 615 + x4.toNatClampNeg + 0 + 0 ≤ 601024; omega) (by show 9696 + 2 * x4.toNatClampNeg + 0 + 0 ≤ 7293034; omega)

theorem j_L_law_796 {X : ZX} (hst : (xl X).stackTraces = false) (N : Nat) (x0 : Nat) (x1 : Nat) (x2 : Nat) (x3 : Nat) (x4 : Int32)   (g : ZS) {K : ((Int32 × ZS) ⊕ (Int32 × ZS)) → Prop} (h0 : ∀ v g, K (.inr (v, g)) → xK X (some (.int v)) g) (hL23 : ∀ s, K (.inl s) → zG Y_L_law X (615 + s.1.toNatClampNeg) (9696 + 2 * s.1.toNatClampNeg) 23 [some (.ref x0), some (.ref x1), some (.ref x2), some (.ref x3), some (.int s.1), none, none, none] [] s.2) : J Y_L_law X (615 + x4.toNatClampNeg) (9696 + 2 * x4.toNatClampNeg) 796 [some (.ref x0), some (.ref x1), some (.ref x2), some (.ref x3), some (.int x4), none, none, none] [] g (f_L_law_796 N x0 x1 x2 x3 x4 g) K := by
  unfold f_L_law_796
  refine J_cap (fun hi => ?_)
  refine J_aload_n rfl rfl (show Dc Y_L_law 796 (.aload_n 1) 1 797 from ⟨by decide +kernel, rfl⟩) ?_
  refine J_aload_n rfl rfl (show Dc Y_L_law 797 (.aload_n 0) 1 798 from ⟨by decide +kernel, rfl⟩) ?_
  refine J_iload rfl (show Dc Y_L_law 798 (.iload 4) 2 800 from ⟨by decide +kernel, rfl⟩) ?_
  refine J_iconst (1 : Int32) rfl (show Dc Y_L_law 800 (.iconst 1) 1 801 from ⟨by decide +kernel, rfl⟩) ?_
  refine J_iadd (show Dc Y_L_law 801 (.iadd) 1 802 from ⟨by decide +kernel, rfl⟩) ?_
  refine J_sald (show Dc Y_L_law 802 (.iaload) 1 803 from ⟨by decide +kernel, rfl⟩) (fun v1 => ?_)
  refine J_callVi (fun r => r.1) (fun r => r.2) (show Dc Y_L_law 803 (.invokevirtual 108) 3 806 from ⟨by decide +kernel, rfl⟩) w_m_RL_108 w_in_X11_says rfl w_se_X11_says w_cw_X11_says (c_X11_says N x1 v1 g) rfl rfl (by decide) (Nat.le_of_ble_eq_true rfl) (by show 615 + x4.toNatClampNeg + 0 ≤ 601024; omega) (by show 9696 + 2 * x4.toNatClampNeg + 0 ≤ 7293034; omega) (fun r2 => ?_)
  refine J_aload_n rfl rfl (show Dc Y_L_law 806 (.aload_n 2) 1 807 from ⟨by decide +kernel, rfl⟩) ?_
  refine J_aload_n rfl rfl (show Dc Y_L_law 807 (.aload_n 0) 1 808 from ⟨by decide +kernel, rfl⟩) ?_
  refine J_iload rfl (show Dc Y_L_law 808 (.iload 4) 2 810 from ⟨by decide +kernel, rfl⟩) ?_
  refine J_iconst (1 : Int32) rfl (show Dc Y_L_law 810 (.iconst 1) 1 811 from ⟨by decide +kernel, rfl⟩) ?_
  refine J_iadd (show Dc Y_L_law 811 (.iadd) 1 812 from ⟨by decide +kernel, rfl⟩) ?_
  refine J_sald (show Dc Y_L_law 812 (.iaload) 1 813 from ⟨by decide +kernel, rfl⟩) (fun v3 => ?_)
  refine J_callVi (fun r => r.1) (fun r => r.2) (show Dc Y_L_law 813 (.invokevirtual 111) 3 816 from ⟨by decide +kernel, rfl⟩) w_m_RL_111 w_in_X12_says rfl w_se_X12_says w_cw_X12_says (c_X12_says N x2 v3 r2.2) rfl rfl (by decide) (Nat.le_of_ble_eq_true rfl) (by show 615 + x4.toNatClampNeg + 0 + 0 ≤ 601024; omega) (by show 9696 + 2 * x4.toNatClampNeg + 0 + 0 ≤ 7293034; omega) (fun r4 => ?_)
  refine J_icmp_eq (tg := 1673) (show Dc Y_L_law 816 (.if_icmp .eq 857) 3 819 from ⟨by decide +kernel, rfl⟩) (by decide) (fun h => ?_) (fun h => ?_)
  · exact J_mono (by show 615 + x4.toNatClampNeg + 0 + 0 ≤ 615 + x4.toNatClampNeg + 1; omega) (by show 9696 + 2 * x4.toNatClampNeg + 0 + 0 ≤ 9696 + 2 * x4.toNatClampNeg + 6; omega) <| j_L_law_1673 hst N x0 x1 x2 x3 x4 r4.2 h0 hL23
  · refine J_map (f := Sum.inr) (fun _ h => h) ?_
    refine J_iconst (0 : Int32) rfl (show Dc Y_L_law 819 (.iconst 0) 1 820 from ⟨by decide +kernel, rfl⟩) ?_
    exact J_retz rfl (show Dc Y_L_law 820 (.ireturn) 1 821 from ⟨by decide +kernel, rfl⟩) rfl (h0 _ _) (by show 615 + x4.toNatClampNeg + 0 + 0 ≤ 601024; omega) (by show 9696 + 2 * x4.toNatClampNeg + 0 + 0 ≤ 7293034; omega)

theorem j_L_law_821 {X : ZX} (hst : (xl X).stackTraces = false) (N : Nat) (x0 : Nat) (x1 : Nat) (x2 : Nat) (x3 : Nat) (x4 : Int32)   (g : ZS) {K : ((Int32 × ZS) ⊕ (Int32 × ZS)) → Prop} (h0 : ∀ v g, K (.inr (v, g)) → xK X (some (.int v)) g) (hL23 : ∀ s, K (.inl s) → zG Y_L_law X (615 + s.1.toNatClampNeg) (9696 + 2 * s.1.toNatClampNeg) 23 [some (.ref x0), some (.ref x1), some (.ref x2), some (.ref x3), some (.int s.1), none, none, none] [] s.2) : J Y_L_law X (615 + x4.toNatClampNeg) (9696 + 2 * x4.toNatClampNeg) 821 [some (.ref x0), some (.ref x1), some (.ref x2), some (.ref x3), some (.int x4), none, none, none] [] g (f_L_law_821 N x0 x1 x2 x3 x4 g) K := by
  unfold f_L_law_821
  refine J_cap (fun hi => ?_)
  refine J_aload_n rfl rfl (show Dc Y_L_law 821 (.aload_n 1) 1 822 from ⟨by decide +kernel, rfl⟩) ?_
  refine J_aload_n rfl rfl (show Dc Y_L_law 822 (.aload_n 0) 1 823 from ⟨by decide +kernel, rfl⟩) ?_
  refine J_iload rfl (show Dc Y_L_law 823 (.iload 4) 2 825 from ⟨by decide +kernel, rfl⟩) ?_
  refine J_iconst (1 : Int32) rfl (show Dc Y_L_law 825 (.iconst 1) 1 826 from ⟨by decide +kernel, rfl⟩) ?_
  refine J_iadd (show Dc Y_L_law 826 (.iadd) 1 827 from ⟨by decide +kernel, rfl⟩) ?_
  refine J_sald (show Dc Y_L_law 827 (.iaload) 1 828 from ⟨by decide +kernel, rfl⟩) (fun v1 => ?_)
  refine J_aload_n rfl rfl (show Dc Y_L_law 828 (.aload_n 0) 1 829 from ⟨by decide +kernel, rfl⟩) ?_
  refine J_iload rfl (show Dc Y_L_law 829 (.iload 4) 2 831 from ⟨by decide +kernel, rfl⟩) ?_
  refine J_iconst (2 : Int32) rfl (show Dc Y_L_law 831 (.iconst 2) 1 832 from ⟨by decide +kernel, rfl⟩) ?_
  refine J_iadd (show Dc Y_L_law 832 (.iadd) 1 833 from ⟨by decide +kernel, rfl⟩) ?_
  refine J_sald (show Dc Y_L_law 833 (.iaload) 1 834 from ⟨by decide +kernel, rfl⟩) (fun v2 => ?_)
  refine J_callVi (fun r => r.1) (fun r => r.2) (show Dc Y_L_law 834 (.invokevirtual 112) 3 837 from ⟨by decide +kernel, rfl⟩) w_m_RL_112 w_in_X11_place rfl w_se_X11_place w_cw_X11_place (c_X11_place N x1 v1 v2 g) rfl rfl (by decide) (Nat.le_of_ble_eq_true rfl) (by show 615 + x4.toNatClampNeg + 0 ≤ 601024; omega) (by show 9696 + 2 * x4.toNatClampNeg + 0 ≤ 7293034; omega) (fun r3 => ?_)
  refine J_aload_n rfl rfl (show Dc Y_L_law 837 (.aload_n 2) 1 838 from ⟨by decide +kernel, rfl⟩) ?_
  refine J_aload_n rfl rfl (show Dc Y_L_law 838 (.aload_n 0) 1 839 from ⟨by decide +kernel, rfl⟩) ?_
  refine J_iload rfl (show Dc Y_L_law 839 (.iload 4) 2 841 from ⟨by decide +kernel, rfl⟩) ?_
  refine J_iconst (1 : Int32) rfl (show Dc Y_L_law 841 (.iconst 1) 1 842 from ⟨by decide +kernel, rfl⟩) ?_
  refine J_iadd (show Dc Y_L_law 842 (.iadd) 1 843 from ⟨by decide +kernel, rfl⟩) ?_
  refine J_sald (show Dc Y_L_law 843 (.iaload) 1 844 from ⟨by decide +kernel, rfl⟩) (fun v4 => ?_)
  refine J_aload_n rfl rfl (show Dc Y_L_law 844 (.aload_n 0) 1 845 from ⟨by decide +kernel, rfl⟩) ?_
  refine J_iload rfl (show Dc Y_L_law 845 (.iload 4) 2 847 from ⟨by decide +kernel, rfl⟩) ?_
  refine J_iconst (2 : Int32) rfl (show Dc Y_L_law 847 (.iconst 2) 1 848 from ⟨by decide +kernel, rfl⟩) ?_
  refine J_iadd (show Dc Y_L_law 848 (.iadd) 1 849 from ⟨by decide +kernel, rfl⟩) ?_
  refine J_sald (show Dc Y_L_law 849 (.iaload) 1 850 from ⟨by decide +kernel, rfl⟩) (fun v5 => ?_)
  refine J_callVi (fun r => r.1) (fun r => r.2) (show Dc Y_L_law 850 (.invokevirtual 115) 3 853 from ⟨by decide +kernel, rfl⟩) w_m_RL_115 w_in_X12_place rfl w_se_X12_place w_cw_X12_place (c_X12_place N x2 v4 v5 r3.2) rfl rfl (by decide) (Nat.le_of_ble_eq_true rfl) (by show 615 + x4.toNatClampNeg + 0 + 0 ≤ 601024; omega) (by show 9696 + 2 * x4.toNatClampNeg + 0 + 0 ≤ 7293034; omega) (fun r6 => ?_)
  refine J_icmp_eq (tg := 1673) (show Dc Y_L_law 853 (.if_icmp .eq 820) 3 856 from ⟨by decide +kernel, rfl⟩) (by decide) (fun h => ?_) (fun h => ?_)
  · exact J_mono (by show 615 + x4.toNatClampNeg + 0 + 0 ≤ 615 + x4.toNatClampNeg + 1; omega) (by show 9696 + 2 * x4.toNatClampNeg + 0 + 0 ≤ 9696 + 2 * x4.toNatClampNeg + 6; omega) <| j_L_law_1673 hst N x0 x1 x2 x3 x4 r6.2 h0 hL23
  · refine J_map (f := Sum.inr) (fun _ h => h) ?_
    refine J_iconst (0 : Int32) rfl (show Dc Y_L_law 856 (.iconst 0) 1 857 from ⟨by decide +kernel, rfl⟩) ?_
    exact J_retz rfl (show Dc Y_L_law 857 (.ireturn) 1 858 from ⟨by decide +kernel, rfl⟩) rfl (h0 _ _) (by show 615 + x4.toNatClampNeg + 0 + 0 ≤ 601024; omega) (by show 9696 + 2 * x4.toNatClampNeg + 0 + 0 ≤ 7293034; omega)

theorem j_L_law_858 {X : ZX} (hst : (xl X).stackTraces = false) (N : Nat) (x0 : Nat) (x1 : Nat) (x2 : Nat) (x3 : Nat) (x4 : Int32)   (g : ZS) {K : ((Int32 × ZS) ⊕ (Int32 × ZS)) → Prop} (h0 : ∀ v g, K (.inr (v, g)) → xK X (some (.int v)) g) (hL23 : ∀ s, K (.inl s) → zG Y_L_law X (615 + s.1.toNatClampNeg) (9696 + 2 * s.1.toNatClampNeg) 23 [some (.ref x0), some (.ref x1), some (.ref x2), some (.ref x3), some (.int s.1), none, none, none] [] s.2) : J Y_L_law X (615 + x4.toNatClampNeg) (9696 + 2 * x4.toNatClampNeg) 858 [some (.ref x0), some (.ref x1), some (.ref x2), some (.ref x3), some (.int x4), none, none, none] [] g (f_L_law_858 N x0 x1 x2 x3 x4 g) K := by
  unfold f_L_law_858
  refine J_cap (fun hi => ?_)
  refine J_aload_n rfl rfl (show Dc Y_L_law 858 (.aload_n 1) 1 859 from ⟨by decide +kernel, rfl⟩) ?_
  refine J_aload_n rfl rfl (show Dc Y_L_law 859 (.aload_n 0) 1 860 from ⟨by decide +kernel, rfl⟩) ?_
  refine J_iload rfl (show Dc Y_L_law 860 (.iload 4) 2 862 from ⟨by decide +kernel, rfl⟩) ?_
  refine J_iconst (1 : Int32) rfl (show Dc Y_L_law 862 (.iconst 1) 1 863 from ⟨by decide +kernel, rfl⟩) ?_
  refine J_iadd (show Dc Y_L_law 863 (.iadd) 1 864 from ⟨by decide +kernel, rfl⟩) ?_
  refine J_sald (show Dc Y_L_law 864 (.iaload) 1 865 from ⟨by decide +kernel, rfl⟩) (fun v1 => ?_)
  refine J_callVi (fun r => r.1) (fun r => r.2) (show Dc Y_L_law 865 (.invokevirtual 116) 3 868 from ⟨by decide +kernel, rfl⟩) w_m_RL_116 w_in_X11_soonest rfl w_se_X11_soonest w_cw_X11_soonest (c_X11_soonest N x1 v1 g) rfl rfl (by decide) (Nat.le_of_ble_eq_true rfl) (by show 615 + x4.toNatClampNeg + 0 ≤ 601024; omega) (by show 9696 + 2 * x4.toNatClampNeg + 0 ≤ 7293034; omega) (fun r2 => ?_)
  refine J_aload_n rfl rfl (show Dc Y_L_law 868 (.aload_n 2) 1 869 from ⟨by decide +kernel, rfl⟩) ?_
  refine J_aload_n rfl rfl (show Dc Y_L_law 869 (.aload_n 0) 1 870 from ⟨by decide +kernel, rfl⟩) ?_
  refine J_iload rfl (show Dc Y_L_law 870 (.iload 4) 2 872 from ⟨by decide +kernel, rfl⟩) ?_
  refine J_iconst (1 : Int32) rfl (show Dc Y_L_law 872 (.iconst 1) 1 873 from ⟨by decide +kernel, rfl⟩) ?_
  refine J_iadd (show Dc Y_L_law 873 (.iadd) 1 874 from ⟨by decide +kernel, rfl⟩) ?_
  refine J_sald (show Dc Y_L_law 874 (.iaload) 1 875 from ⟨by decide +kernel, rfl⟩) (fun v3 => ?_)
  refine J_callVi (fun r => r.1) (fun r => r.2) (show Dc Y_L_law 875 (.invokevirtual 119) 3 878 from ⟨by decide +kernel, rfl⟩) w_m_RL_119 w_in_X12_soonest rfl w_se_X12_soonest w_cw_X12_soonest (c_X12_soonest N x2 v3 r2.2) rfl rfl (by decide) (Nat.le_of_ble_eq_true rfl) (by show 615 + x4.toNatClampNeg + 0 + 0 ≤ 601024; omega) (by show 9696 + 2 * x4.toNatClampNeg + 0 + 0 ≤ 7293034; omega) (fun r4 => ?_)
  refine J_icmp_eq (tg := 1673) (show Dc Y_L_law 878 (.if_icmp .eq 795) 3 881 from ⟨by decide +kernel, rfl⟩) (by decide) (fun h => ?_) (fun h => ?_)
  · exact J_mono (by show 615 + x4.toNatClampNeg + 0 + 0 ≤ 615 + x4.toNatClampNeg + 1; omega) (by show 9696 + 2 * x4.toNatClampNeg + 0 + 0 ≤ 9696 + 2 * x4.toNatClampNeg + 6; omega) <| j_L_law_1673 hst N x0 x1 x2 x3 x4 r4.2 h0 hL23
  · refine J_map (f := Sum.inr) (fun _ h => h) ?_
    refine J_iconst (0 : Int32) rfl (show Dc Y_L_law 881 (.iconst 0) 1 882 from ⟨by decide +kernel, rfl⟩) ?_
    exact J_retz rfl (show Dc Y_L_law 882 (.ireturn) 1 883 from ⟨by decide +kernel, rfl⟩) rfl (h0 _ _) (by show 615 + x4.toNatClampNeg + 0 + 0 ≤ 601024; omega) (by show 9696 + 2 * x4.toNatClampNeg + 0 + 0 ≤ 7293034; omega)

theorem j_L_law_883 {X : ZX} (hst : (xl X).stackTraces = false) (N : Nat) (x0 : Nat) (x1 : Nat) (x2 : Nat) (x3 : Nat) (x4 : Int32)   (g : ZS) {K : ((Int32 × ZS) ⊕ (Int32 × ZS)) → Prop} (h0 : ∀ v g, K (.inr (v, g)) → xK X (some (.int v)) g) (hL23 : ∀ s, K (.inl s) → zG Y_L_law X (615 + s.1.toNatClampNeg) (9696 + 2 * s.1.toNatClampNeg) 23 [some (.ref x0), some (.ref x1), some (.ref x2), some (.ref x3), some (.int s.1), none, none, none] [] s.2) : J Y_L_law X (615 + x4.toNatClampNeg) (9696 + 2 * x4.toNatClampNeg) 883 [some (.ref x0), some (.ref x1), some (.ref x2), some (.ref x3), some (.int x4), none, none, none] [] g (f_L_law_883 N x0 x1 x2 x3 x4 g) K := by
  unfold f_L_law_883
  refine J_cap (fun hi => ?_)
  refine J_aload_n rfl rfl (show Dc Y_L_law 883 (.aload_n 1) 1 884 from ⟨by decide +kernel, rfl⟩) ?_
  refine J_callVi (fun r => r.1) (fun r => r.2) (show Dc Y_L_law 884 (.invokevirtual 120) 3 887 from ⟨by decide +kernel, rfl⟩) w_m_RL_120 w_in_X11_unsaid rfl w_se_X11_unsaid w_cw_X11_unsaid (c_X11_unsaid N x1 g) rfl rfl (by decide) (Nat.le_of_ble_eq_true rfl) (by show 615 + x4.toNatClampNeg + 0 ≤ 601024; omega) (by show 9696 + 2 * x4.toNatClampNeg + 0 ≤ 7293034; omega) (fun r1 => ?_)
  refine J_aload_n rfl rfl (show Dc Y_L_law 887 (.aload_n 2) 1 888 from ⟨by decide +kernel, rfl⟩) ?_
  refine J_callVi (fun r => r.1) (fun r => r.2) (show Dc Y_L_law 888 (.invokevirtual 123) 3 891 from ⟨by decide +kernel, rfl⟩) w_m_RL_123 w_in_X12_unsaid rfl w_se_X12_unsaid w_cw_X12_unsaid (c_X12_unsaid N x2 r1.2) rfl rfl (by decide) (Nat.le_of_ble_eq_true rfl) (by show 615 + x4.toNatClampNeg + 0 + 0 ≤ 601024; omega) (by show 9696 + 2 * x4.toNatClampNeg + 0 + 0 ≤ 7293034; omega) (fun r2 => ?_)
  refine J_icmp_eq (tg := 1673) (show Dc Y_L_law 891 (.if_icmp .eq 782) 3 894 from ⟨by decide +kernel, rfl⟩) (by decide) (fun h => ?_) (fun h => ?_)
  · exact J_mono (by show 615 + x4.toNatClampNeg + 0 + 0 ≤ 615 + x4.toNatClampNeg + 1; omega) (by show 9696 + 2 * x4.toNatClampNeg + 0 + 0 ≤ 9696 + 2 * x4.toNatClampNeg + 6; omega) <| j_L_law_1673 hst N x0 x1 x2 x3 x4 r2.2 h0 hL23
  · refine J_map (f := Sum.inr) (fun _ h => h) ?_
    refine J_iconst (0 : Int32) rfl (show Dc Y_L_law 894 (.iconst 0) 1 895 from ⟨by decide +kernel, rfl⟩) ?_
    exact J_retz rfl (show Dc Y_L_law 895 (.ireturn) 1 896 from ⟨by decide +kernel, rfl⟩) rfl (h0 _ _) (by show 615 + x4.toNatClampNeg + 0 + 0 ≤ 601024; omega) (by show 9696 + 2 * x4.toNatClampNeg + 0 + 0 ≤ 7293034; omega)

theorem j_L_law_896 {X : ZX} (hst : (xl X).stackTraces = false) (N : Nat) (x0 : Nat) (x1 : Nat) (x2 : Nat) (x3 : Nat) (x4 : Int32)   (g : ZS) {K : ((Int32 × ZS) ⊕ (Int32 × ZS)) → Prop} (h0 : ∀ v g, K (.inr (v, g)) → xK X (some (.int v)) g) (hL23 : ∀ s, K (.inl s) → zG Y_L_law X (615 + s.1.toNatClampNeg) (9696 + 2 * s.1.toNatClampNeg) 23 [some (.ref x0), some (.ref x1), some (.ref x2), some (.ref x3), some (.int s.1), none, none, none] [] s.2) : J Y_L_law X (615 + x4.toNatClampNeg) (9696 + 2 * x4.toNatClampNeg) 896 [some (.ref x0), some (.ref x1), some (.ref x2), some (.ref x3), some (.int x4), none, none, none] [] g (f_L_law_896 N x0 x1 x2 x3 x4 g) K := by
  unfold f_L_law_896
  refine J_cap (fun hi => ?_)
  refine J_aload_n rfl rfl (show Dc Y_L_law 896 (.aload_n 1) 1 897 from ⟨by decide +kernel, rfl⟩) ?_
  refine J_aload_n rfl rfl (show Dc Y_L_law 897 (.aload_n 0) 1 898 from ⟨by decide +kernel, rfl⟩) ?_
  refine J_iload rfl (show Dc Y_L_law 898 (.iload 4) 2 900 from ⟨by decide +kernel, rfl⟩) ?_
  refine J_iconst (1 : Int32) rfl (show Dc Y_L_law 900 (.iconst 1) 1 901 from ⟨by decide +kernel, rfl⟩) ?_
  refine J_iadd (show Dc Y_L_law 901 (.iadd) 1 902 from ⟨by decide +kernel, rfl⟩) ?_
  refine J_sald (show Dc Y_L_law 902 (.iaload) 1 903 from ⟨by decide +kernel, rfl⟩) (fun v1 => ?_)
  refine J_aload_n rfl rfl (show Dc Y_L_law 903 (.aload_n 0) 1 904 from ⟨by decide +kernel, rfl⟩) ?_
  refine J_iload rfl (show Dc Y_L_law 904 (.iload 4) 2 906 from ⟨by decide +kernel, rfl⟩) ?_
  refine J_iconst (2 : Int32) rfl (show Dc Y_L_law 906 (.iconst 2) 1 907 from ⟨by decide +kernel, rfl⟩) ?_
  refine J_iadd (show Dc Y_L_law 907 (.iadd) 1 908 from ⟨by decide +kernel, rfl⟩) ?_
  refine J_sald (show Dc Y_L_law 908 (.iaload) 1 909 from ⟨by decide +kernel, rfl⟩) (fun v2 => ?_)
  refine J_callVi (fun r => r.1) (fun r => r.2) (show Dc Y_L_law 909 (.invokevirtual 124) 3 912 from ⟨by decide +kernel, rfl⟩) w_m_RL_124 w_in_X11_later rfl w_se_X11_later w_cw_X11_later (c_X11_later N x1 v1 v2 g) rfl rfl (by decide) (Nat.le_of_ble_eq_true rfl) (by show 615 + x4.toNatClampNeg + 0 ≤ 601024; omega) (by show 9696 + 2 * x4.toNatClampNeg + 0 ≤ 7293034; omega) (fun r3 => ?_)
  refine J_aload_n rfl rfl (show Dc Y_L_law 912 (.aload_n 2) 1 913 from ⟨by decide +kernel, rfl⟩) ?_
  refine J_aload_n rfl rfl (show Dc Y_L_law 913 (.aload_n 0) 1 914 from ⟨by decide +kernel, rfl⟩) ?_
  refine J_iload rfl (show Dc Y_L_law 914 (.iload 4) 2 916 from ⟨by decide +kernel, rfl⟩) ?_
  refine J_iconst (1 : Int32) rfl (show Dc Y_L_law 916 (.iconst 1) 1 917 from ⟨by decide +kernel, rfl⟩) ?_
  refine J_iadd (show Dc Y_L_law 917 (.iadd) 1 918 from ⟨by decide +kernel, rfl⟩) ?_
  refine J_sald (show Dc Y_L_law 918 (.iaload) 1 919 from ⟨by decide +kernel, rfl⟩) (fun v4 => ?_)
  refine J_aload_n rfl rfl (show Dc Y_L_law 919 (.aload_n 0) 1 920 from ⟨by decide +kernel, rfl⟩) ?_
  refine J_iload rfl (show Dc Y_L_law 920 (.iload 4) 2 922 from ⟨by decide +kernel, rfl⟩) ?_
  refine J_iconst (2 : Int32) rfl (show Dc Y_L_law 922 (.iconst 2) 1 923 from ⟨by decide +kernel, rfl⟩) ?_
  refine J_iadd (show Dc Y_L_law 923 (.iadd) 1 924 from ⟨by decide +kernel, rfl⟩) ?_
  refine J_sald (show Dc Y_L_law 924 (.iaload) 1 925 from ⟨by decide +kernel, rfl⟩) (fun v5 => ?_)
  refine J_callVi (fun r => r.1) (fun r => r.2) (show Dc Y_L_law 925 (.invokevirtual 127) 3 928 from ⟨by decide +kernel, rfl⟩) w_m_RL_127 w_in_X12_later rfl w_se_X12_later w_cw_X12_later (c_X12_later N x2 v4 v5 r3.2) rfl rfl (by decide) (Nat.le_of_ble_eq_true rfl) (by show 615 + x4.toNatClampNeg + 0 + 0 ≤ 601024; omega) (by show 9696 + 2 * x4.toNatClampNeg + 0 + 0 ≤ 7293034; omega) (fun r6 => ?_)
  refine J_icmp_eq (tg := 1673) (show Dc Y_L_law 928 (.if_icmp .eq 745) 3 931 from ⟨by decide +kernel, rfl⟩) (by decide) (fun h => ?_) (fun h => ?_)
  · exact J_mono (by show 615 + x4.toNatClampNeg + 0 + 0 ≤ 615 + x4.toNatClampNeg + 1; omega) (by show 9696 + 2 * x4.toNatClampNeg + 0 + 0 ≤ 9696 + 2 * x4.toNatClampNeg + 6; omega) <| j_L_law_1673 hst N x0 x1 x2 x3 x4 r6.2 h0 hL23
  · refine J_map (f := Sum.inr) (fun _ h => h) ?_
    refine J_iconst (0 : Int32) rfl (show Dc Y_L_law 931 (.iconst 0) 1 932 from ⟨by decide +kernel, rfl⟩) ?_
    exact J_retz rfl (show Dc Y_L_law 932 (.ireturn) 1 933 from ⟨by decide +kernel, rfl⟩) rfl (h0 _ _) (by show 615 + x4.toNatClampNeg + 0 + 0 ≤ 601024; omega) (by show 9696 + 2 * x4.toNatClampNeg + 0 + 0 ≤ 7293034; omega)

theorem j_L_law_933 {X : ZX} (hst : (xl X).stackTraces = false) (N : Nat) (x0 : Nat) (x1 : Nat) (x2 : Nat) (x3 : Nat) (x4 : Int32)   (g : ZS) {K : ((Int32 × ZS) ⊕ (Int32 × ZS)) → Prop} (h0 : ∀ v g, K (.inr (v, g)) → xK X (some (.int v)) g) (hL23 : ∀ s, K (.inl s) → zG Y_L_law X (615 + s.1.toNatClampNeg) (9696 + 2 * s.1.toNatClampNeg) 23 [some (.ref x0), some (.ref x1), some (.ref x2), some (.ref x3), some (.int s.1), none, none, none] [] s.2) : J Y_L_law X (615 + x4.toNatClampNeg) (9696 + 2 * x4.toNatClampNeg) 933 [some (.ref x0), some (.ref x1), some (.ref x2), some (.ref x3), some (.int x4), none, none, none] [] g (f_L_law_933 N x0 x1 x2 x3 x4 g) K := by
  unfold f_L_law_933
  refine J_cap (fun hi => ?_)
  refine J_aload_n rfl rfl (show Dc Y_L_law 933 (.aload_n 1) 1 934 from ⟨by decide +kernel, rfl⟩) ?_
  refine J_aload_n rfl rfl (show Dc Y_L_law 934 (.aload_n 0) 1 935 from ⟨by decide +kernel, rfl⟩) ?_
  refine J_iload rfl (show Dc Y_L_law 935 (.iload 4) 2 937 from ⟨by decide +kernel, rfl⟩) ?_
  refine J_iconst (1 : Int32) rfl (show Dc Y_L_law 937 (.iconst 1) 1 938 from ⟨by decide +kernel, rfl⟩) ?_
  refine J_iadd (show Dc Y_L_law 938 (.iadd) 1 939 from ⟨by decide +kernel, rfl⟩) ?_
  refine J_sald (show Dc Y_L_law 939 (.iaload) 1 940 from ⟨by decide +kernel, rfl⟩) (fun v1 => ?_)
  refine J_callVi (fun r => r.1) (fun r => r.2) (show Dc Y_L_law 940 (.invokevirtual 128) 3 943 from ⟨by decide +kernel, rfl⟩) w_m_RL_128 w_in_X11_alters rfl w_se_X11_alters w_cw_X11_alters (c_X11_alters N x1 v1 g) rfl rfl (by decide) (Nat.le_of_ble_eq_true rfl) (by show 615 + x4.toNatClampNeg + 0 ≤ 601024; omega) (by show 9696 + 2 * x4.toNatClampNeg + 0 ≤ 7293034; omega) (fun r2 => ?_)
  refine J_aload_n rfl rfl (show Dc Y_L_law 943 (.aload_n 2) 1 944 from ⟨by decide +kernel, rfl⟩) ?_
  refine J_aload_n rfl rfl (show Dc Y_L_law 944 (.aload_n 0) 1 945 from ⟨by decide +kernel, rfl⟩) ?_
  refine J_iload rfl (show Dc Y_L_law 945 (.iload 4) 2 947 from ⟨by decide +kernel, rfl⟩) ?_
  refine J_iconst (1 : Int32) rfl (show Dc Y_L_law 947 (.iconst 1) 1 948 from ⟨by decide +kernel, rfl⟩) ?_
  refine J_iadd (show Dc Y_L_law 948 (.iadd) 1 949 from ⟨by decide +kernel, rfl⟩) ?_
  refine J_sald (show Dc Y_L_law 949 (.iaload) 1 950 from ⟨by decide +kernel, rfl⟩) (fun v3 => ?_)
  refine J_callVi (fun r => r.1) (fun r => r.2) (show Dc Y_L_law 950 (.invokevirtual 131) 3 953 from ⟨by decide +kernel, rfl⟩) w_m_RL_131 w_in_X12_alters rfl w_se_X12_alters w_cw_X12_alters (c_X12_alters N x2 v3 r2.2) rfl rfl (by decide) (Nat.le_of_ble_eq_true rfl) (by show 615 + x4.toNatClampNeg + 0 + 0 ≤ 601024; omega) (by show 9696 + 2 * x4.toNatClampNeg + 0 + 0 ≤ 7293034; omega) (fun r4 => ?_)
  refine J_icmp_eq (tg := 1673) (show Dc Y_L_law 953 (.if_icmp .eq 720) 3 956 from ⟨by decide +kernel, rfl⟩) (by decide) (fun h => ?_) (fun h => ?_)
  · exact J_mono (by show 615 + x4.toNatClampNeg + 0 + 0 ≤ 615 + x4.toNatClampNeg + 1; omega) (by show 9696 + 2 * x4.toNatClampNeg + 0 + 0 ≤ 9696 + 2 * x4.toNatClampNeg + 6; omega) <| j_L_law_1673 hst N x0 x1 x2 x3 x4 r4.2 h0 hL23
  · refine J_map (f := Sum.inr) (fun _ h => h) ?_
    refine J_iconst (0 : Int32) rfl (show Dc Y_L_law 956 (.iconst 0) 1 957 from ⟨by decide +kernel, rfl⟩) ?_
    exact J_retz rfl (show Dc Y_L_law 957 (.ireturn) 1 958 from ⟨by decide +kernel, rfl⟩) rfl (h0 _ _) (by show 615 + x4.toNatClampNeg + 0 + 0 ≤ 601024; omega) (by show 9696 + 2 * x4.toNatClampNeg + 0 + 0 ≤ 7293034; omega)

theorem j_L_law_958 {X : ZX} (hst : (xl X).stackTraces = false) (N : Nat) (x0 : Nat) (x1 : Nat) (x2 : Nat) (x3 : Nat) (x4 : Int32)   (g : ZS) {K : ((Int32 × ZS) ⊕ (Int32 × ZS)) → Prop} (h0 : ∀ v g, K (.inr (v, g)) → xK X (some (.int v)) g) (hL23 : ∀ s, K (.inl s) → zG Y_L_law X (615 + s.1.toNatClampNeg) (9696 + 2 * s.1.toNatClampNeg) 23 [some (.ref x0), some (.ref x1), some (.ref x2), some (.ref x3), some (.int s.1), none, none, none] [] s.2) : J Y_L_law X (615 + x4.toNatClampNeg) (9696 + 2 * x4.toNatClampNeg) 958 [some (.ref x0), some (.ref x1), some (.ref x2), some (.ref x3), some (.int x4), none, none, none] [] g (f_L_law_958 N x0 x1 x2 x3 x4 g) K := by
  unfold f_L_law_958
  refine J_cap (fun hi => ?_)
  refine J_aload_n rfl rfl (show Dc Y_L_law 958 (.aload_n 1) 1 959 from ⟨by decide +kernel, rfl⟩) ?_
  refine J_aload_n rfl rfl (show Dc Y_L_law 959 (.aload_n 0) 1 960 from ⟨by decide +kernel, rfl⟩) ?_
  refine J_iload rfl (show Dc Y_L_law 960 (.iload 4) 2 962 from ⟨by decide +kernel, rfl⟩) ?_
  refine J_iconst (1 : Int32) rfl (show Dc Y_L_law 962 (.iconst 1) 1 963 from ⟨by decide +kernel, rfl⟩) ?_
  refine J_iadd (show Dc Y_L_law 963 (.iadd) 1 964 from ⟨by decide +kernel, rfl⟩) ?_
  refine J_sald (show Dc Y_L_law 964 (.iaload) 1 965 from ⟨by decide +kernel, rfl⟩) (fun v1 => ?_)
  refine J_aload_n rfl rfl (show Dc Y_L_law 965 (.aload_n 0) 1 966 from ⟨by decide +kernel, rfl⟩) ?_
  refine J_iload rfl (show Dc Y_L_law 966 (.iload 4) 2 968 from ⟨by decide +kernel, rfl⟩) ?_
  refine J_iconst (2 : Int32) rfl (show Dc Y_L_law 968 (.iconst 2) 1 969 from ⟨by decide +kernel, rfl⟩) ?_
  refine J_iadd (show Dc Y_L_law 969 (.iadd) 1 970 from ⟨by decide +kernel, rfl⟩) ?_
  refine J_sald (show Dc Y_L_law 970 (.iaload) 1 971 from ⟨by decide +kernel, rfl⟩) (fun v2 => ?_)
  refine J_callVi (fun r => r.1) (fun r => r.2) (show Dc Y_L_law 971 (.invokevirtual 132) 3 974 from ⟨by decide +kernel, rfl⟩) w_m_RL_132 w_in_X11_crackers rfl w_se_X11_crackers w_cw_X11_crackers (c_X11_crackers N x1 v1 v2 g) rfl rfl (by decide) (Nat.le_of_ble_eq_true rfl) (by show 615 + x4.toNatClampNeg + 0 ≤ 601024; omega) (by show 9696 + 2 * x4.toNatClampNeg + 0 ≤ 7293034; omega) (fun r3 => ?_)
  refine J_aload_n rfl rfl (show Dc Y_L_law 974 (.aload_n 2) 1 975 from ⟨by decide +kernel, rfl⟩) ?_
  refine J_aload_n rfl rfl (show Dc Y_L_law 975 (.aload_n 0) 1 976 from ⟨by decide +kernel, rfl⟩) ?_
  refine J_iload rfl (show Dc Y_L_law 976 (.iload 4) 2 978 from ⟨by decide +kernel, rfl⟩) ?_
  refine J_iconst (1 : Int32) rfl (show Dc Y_L_law 978 (.iconst 1) 1 979 from ⟨by decide +kernel, rfl⟩) ?_
  refine J_iadd (show Dc Y_L_law 979 (.iadd) 1 980 from ⟨by decide +kernel, rfl⟩) ?_
  refine J_sald (show Dc Y_L_law 980 (.iaload) 1 981 from ⟨by decide +kernel, rfl⟩) (fun v4 => ?_)
  refine J_aload_n rfl rfl (show Dc Y_L_law 981 (.aload_n 0) 1 982 from ⟨by decide +kernel, rfl⟩) ?_
  refine J_iload rfl (show Dc Y_L_law 982 (.iload 4) 2 984 from ⟨by decide +kernel, rfl⟩) ?_
  refine J_iconst (2 : Int32) rfl (show Dc Y_L_law 984 (.iconst 2) 1 985 from ⟨by decide +kernel, rfl⟩) ?_
  refine J_iadd (show Dc Y_L_law 985 (.iadd) 1 986 from ⟨by decide +kernel, rfl⟩) ?_
  refine J_sald (show Dc Y_L_law 986 (.iaload) 1 987 from ⟨by decide +kernel, rfl⟩) (fun v5 => ?_)
  refine J_callVi (fun r => r.1) (fun r => r.2) (show Dc Y_L_law 987 (.invokevirtual 135) 3 990 from ⟨by decide +kernel, rfl⟩) w_m_RL_135 w_in_X12_crackers rfl w_se_X12_crackers w_cw_X12_crackers (c_X12_crackers N x2 v4 v5 r3.2) rfl rfl (by decide) (Nat.le_of_ble_eq_true rfl) (by show 615 + x4.toNatClampNeg + 0 + 0 ≤ 601024; omega) (by show 9696 + 2 * x4.toNatClampNeg + 0 + 0 ≤ 7293034; omega) (fun r6 => ?_)
  refine J_icmp_eq (tg := 1673) (show Dc Y_L_law 990 (.if_icmp .eq 683) 3 993 from ⟨by decide +kernel, rfl⟩) (by decide) (fun h => ?_) (fun h => ?_)
  · exact J_mono (by show 615 + x4.toNatClampNeg + 0 + 0 ≤ 615 + x4.toNatClampNeg + 1; omega) (by show 9696 + 2 * x4.toNatClampNeg + 0 + 0 ≤ 9696 + 2 * x4.toNatClampNeg + 6; omega) <| j_L_law_1673 hst N x0 x1 x2 x3 x4 r6.2 h0 hL23
  · refine J_map (f := Sum.inr) (fun _ h => h) ?_
    refine J_iconst (0 : Int32) rfl (show Dc Y_L_law 993 (.iconst 0) 1 994 from ⟨by decide +kernel, rfl⟩) ?_
    exact J_retz rfl (show Dc Y_L_law 994 (.ireturn) 1 995 from ⟨by decide +kernel, rfl⟩) rfl (h0 _ _) (by show 615 + x4.toNatClampNeg + 0 + 0 ≤ 601024; omega) (by show 9696 + 2 * x4.toNatClampNeg + 0 + 0 ≤ 7293034; omega)

theorem j_L_law_995 {X : ZX} (hst : (xl X).stackTraces = false) (N : Nat) (x0 : Nat) (x1 : Nat) (x2 : Nat) (x3 : Nat) (x4 : Int32)   (g : ZS) {K : ((Int32 × ZS) ⊕ (Int32 × ZS)) → Prop} (h0 : ∀ v g, K (.inr (v, g)) → xK X (some (.int v)) g) (hL23 : ∀ s, K (.inl s) → zG Y_L_law X (615 + s.1.toNatClampNeg) (9696 + 2 * s.1.toNatClampNeg) 23 [some (.ref x0), some (.ref x1), some (.ref x2), some (.ref x3), some (.int s.1), none, none, none] [] s.2) : J Y_L_law X (615 + x4.toNatClampNeg) (9696 + 2 * x4.toNatClampNeg) 995 [some (.ref x0), some (.ref x1), some (.ref x2), some (.ref x3), some (.int x4), none, none, none] [] g (f_L_law_995 N x0 x1 x2 x3 x4 g) K := by
  unfold f_L_law_995
  refine J_cap (fun hi => ?_)
  refine J_aload_n rfl rfl (show Dc Y_L_law 995 (.aload_n 1) 1 996 from ⟨by decide +kernel, rfl⟩) ?_
  refine J_aload_n rfl rfl (show Dc Y_L_law 996 (.aload_n 0) 1 997 from ⟨by decide +kernel, rfl⟩) ?_
  refine J_iload rfl (show Dc Y_L_law 997 (.iload 4) 2 999 from ⟨by decide +kernel, rfl⟩) ?_
  refine J_iconst (1 : Int32) rfl (show Dc Y_L_law 999 (.iconst 1) 1 1000 from ⟨by decide +kernel, rfl⟩) ?_
  refine J_iadd (show Dc Y_L_law 1000 (.iadd) 1 1001 from ⟨by decide +kernel, rfl⟩) ?_
  refine J_sald (show Dc Y_L_law 1001 (.iaload) 1 1002 from ⟨by decide +kernel, rfl⟩) (fun v1 => ?_)
  refine J_aload_n rfl rfl (show Dc Y_L_law 1002 (.aload_n 0) 1 1003 from ⟨by decide +kernel, rfl⟩) ?_
  refine J_iload rfl (show Dc Y_L_law 1003 (.iload 4) 2 1005 from ⟨by decide +kernel, rfl⟩) ?_
  refine J_iconst (2 : Int32) rfl (show Dc Y_L_law 1005 (.iconst 2) 1 1006 from ⟨by decide +kernel, rfl⟩) ?_
  refine J_iadd (show Dc Y_L_law 1006 (.iadd) 1 1007 from ⟨by decide +kernel, rfl⟩) ?_
  refine J_sald (show Dc Y_L_law 1007 (.iaload) 1 1008 from ⟨by decide +kernel, rfl⟩) (fun v2 => ?_)
  refine J_aload_n rfl rfl (show Dc Y_L_law 1008 (.aload_n 0) 1 1009 from ⟨by decide +kernel, rfl⟩) ?_
  refine J_iload rfl (show Dc Y_L_law 1009 (.iload 4) 2 1011 from ⟨by decide +kernel, rfl⟩) ?_
  refine J_iconst (3 : Int32) rfl (show Dc Y_L_law 1011 (.iconst 3) 1 1012 from ⟨by decide +kernel, rfl⟩) ?_
  refine J_iadd (show Dc Y_L_law 1012 (.iadd) 1 1013 from ⟨by decide +kernel, rfl⟩) ?_
  refine J_sald (show Dc Y_L_law 1013 (.iaload) 1 1014 from ⟨by decide +kernel, rfl⟩) (fun v3 => ?_)
  refine J_callVi (fun r => r.1) (fun r => r.2) (show Dc Y_L_law 1014 (.invokevirtual 136) 3 1017 from ⟨by decide +kernel, rfl⟩) w_m_RL_136 w_in_X11_stay rfl w_se_X11_stay w_cw_X11_stay (c_X11_stay N x1 v1 v2 v3 g) rfl rfl (by decide) (Nat.le_of_ble_eq_true rfl) (by show 615 + x4.toNatClampNeg + 0 ≤ 601024; omega) (by show 9696 + 2 * x4.toNatClampNeg + 0 ≤ 7293034; omega) (fun r4 => ?_)
  refine J_aload_n rfl rfl (show Dc Y_L_law 1017 (.aload_n 2) 1 1018 from ⟨by decide +kernel, rfl⟩) ?_
  refine J_aload_n rfl rfl (show Dc Y_L_law 1018 (.aload_n 0) 1 1019 from ⟨by decide +kernel, rfl⟩) ?_
  refine J_iload rfl (show Dc Y_L_law 1019 (.iload 4) 2 1021 from ⟨by decide +kernel, rfl⟩) ?_
  refine J_iconst (1 : Int32) rfl (show Dc Y_L_law 1021 (.iconst 1) 1 1022 from ⟨by decide +kernel, rfl⟩) ?_
  refine J_iadd (show Dc Y_L_law 1022 (.iadd) 1 1023 from ⟨by decide +kernel, rfl⟩) ?_
  refine J_sald (show Dc Y_L_law 1023 (.iaload) 1 1024 from ⟨by decide +kernel, rfl⟩) (fun v5 => ?_)
  refine J_aload_n rfl rfl (show Dc Y_L_law 1024 (.aload_n 0) 1 1025 from ⟨by decide +kernel, rfl⟩) ?_
  refine J_iload rfl (show Dc Y_L_law 1025 (.iload 4) 2 1027 from ⟨by decide +kernel, rfl⟩) ?_
  refine J_iconst (2 : Int32) rfl (show Dc Y_L_law 1027 (.iconst 2) 1 1028 from ⟨by decide +kernel, rfl⟩) ?_
  refine J_iadd (show Dc Y_L_law 1028 (.iadd) 1 1029 from ⟨by decide +kernel, rfl⟩) ?_
  refine J_sald (show Dc Y_L_law 1029 (.iaload) 1 1030 from ⟨by decide +kernel, rfl⟩) (fun v6 => ?_)
  refine J_aload_n rfl rfl (show Dc Y_L_law 1030 (.aload_n 0) 1 1031 from ⟨by decide +kernel, rfl⟩) ?_
  refine J_iload rfl (show Dc Y_L_law 1031 (.iload 4) 2 1033 from ⟨by decide +kernel, rfl⟩) ?_
  refine J_iconst (3 : Int32) rfl (show Dc Y_L_law 1033 (.iconst 3) 1 1034 from ⟨by decide +kernel, rfl⟩) ?_
  refine J_iadd (show Dc Y_L_law 1034 (.iadd) 1 1035 from ⟨by decide +kernel, rfl⟩) ?_
  refine J_sald (show Dc Y_L_law 1035 (.iaload) 1 1036 from ⟨by decide +kernel, rfl⟩) (fun v7 => ?_)
  refine J_callVi (fun r => r.1) (fun r => r.2) (show Dc Y_L_law 1036 (.invokevirtual 139) 3 1039 from ⟨by decide +kernel, rfl⟩) w_m_RL_139 w_in_X12_stay rfl w_se_X12_stay w_cw_X12_stay (c_X12_stay N x2 v5 v6 v7 r4.2) rfl rfl (by decide) (Nat.le_of_ble_eq_true rfl) (by show 615 + x4.toNatClampNeg + 0 + 0 ≤ 601024; omega) (by show 9696 + 2 * x4.toNatClampNeg + 0 + 0 ≤ 7293034; omega) (fun r8 => ?_)
  refine J_icmp_eq (tg := 1673) (show Dc Y_L_law 1039 (.if_icmp .eq 634) 3 1042 from ⟨by decide +kernel, rfl⟩) (by decide) (fun h => ?_) (fun h => ?_)
  · exact J_mono (by show 615 + x4.toNatClampNeg + 0 + 0 ≤ 615 + x4.toNatClampNeg + 1; omega) (by show 9696 + 2 * x4.toNatClampNeg + 0 + 0 ≤ 9696 + 2 * x4.toNatClampNeg + 6; omega) <| j_L_law_1673 hst N x0 x1 x2 x3 x4 r8.2 h0 hL23
  · refine J_map (f := Sum.inr) (fun _ h => h) ?_
    refine J_iconst (0 : Int32) rfl (show Dc Y_L_law 1042 (.iconst 0) 1 1043 from ⟨by decide +kernel, rfl⟩) ?_
    exact J_retz rfl (show Dc Y_L_law 1043 (.ireturn) 1 1044 from ⟨by decide +kernel, rfl⟩) rfl (h0 _ _) (by show 615 + x4.toNatClampNeg + 0 + 0 ≤ 601024; omega) (by show 9696 + 2 * x4.toNatClampNeg + 0 + 0 ≤ 7293034; omega)

theorem j_L_law_1044 {X : ZX} (hst : (xl X).stackTraces = false) (N : Nat) (x0 : Nat) (x1 : Nat) (x2 : Nat) (x3 : Nat) (x4 : Int32)   (g : ZS) {K : ((Int32 × ZS) ⊕ (Int32 × ZS)) → Prop} (h0 : ∀ v g, K (.inr (v, g)) → xK X (some (.int v)) g) (hL23 : ∀ s, K (.inl s) → zG Y_L_law X (615 + s.1.toNatClampNeg) (9696 + 2 * s.1.toNatClampNeg) 23 [some (.ref x0), some (.ref x1), some (.ref x2), some (.ref x3), some (.int s.1), none, none, none] [] s.2) : J Y_L_law X (615 + x4.toNatClampNeg) (9696 + 2 * x4.toNatClampNeg) 1044 [some (.ref x0), some (.ref x1), some (.ref x2), some (.ref x3), some (.int x4), none, none, none] [] g (f_L_law_1044 N x0 x1 x2 x3 x4 g) K := by
  unfold f_L_law_1044
  refine J_cap (fun hi => ?_)
  refine J_aload_n rfl rfl (show Dc Y_L_law 1044 (.aload_n 1) 1 1045 from ⟨by decide +kernel, rfl⟩) ?_
  refine J_aload_n rfl rfl (show Dc Y_L_law 1045 (.aload_n 0) 1 1046 from ⟨by decide +kernel, rfl⟩) ?_
  refine J_iload rfl (show Dc Y_L_law 1046 (.iload 4) 2 1048 from ⟨by decide +kernel, rfl⟩) ?_
  refine J_iconst (1 : Int32) rfl (show Dc Y_L_law 1048 (.iconst 1) 1 1049 from ⟨by decide +kernel, rfl⟩) ?_
  refine J_iadd (show Dc Y_L_law 1049 (.iadd) 1 1050 from ⟨by decide +kernel, rfl⟩) ?_
  refine J_sald (show Dc Y_L_law 1050 (.iaload) 1 1051 from ⟨by decide +kernel, rfl⟩) (fun v1 => ?_)
  refine J_aload_n rfl rfl (show Dc Y_L_law 1051 (.aload_n 0) 1 1052 from ⟨by decide +kernel, rfl⟩) ?_
  refine J_iload rfl (show Dc Y_L_law 1052 (.iload 4) 2 1054 from ⟨by decide +kernel, rfl⟩) ?_
  refine J_iconst (2 : Int32) rfl (show Dc Y_L_law 1054 (.iconst 2) 1 1055 from ⟨by decide +kernel, rfl⟩) ?_
  refine J_iadd (show Dc Y_L_law 1055 (.iadd) 1 1056 from ⟨by decide +kernel, rfl⟩) ?_
  refine J_sald (show Dc Y_L_law 1056 (.iaload) 1 1057 from ⟨by decide +kernel, rfl⟩) (fun v2 => ?_)
  refine J_callVi (fun r => r.1) (fun r => r.2) (show Dc Y_L_law 1057 (.invokevirtual 140) 3 1060 from ⟨by decide +kernel, rfl⟩) w_m_RL_140 w_in_X11_hear rfl w_se_X11_hear w_cw_X11_hear (c_X11_hear N x1 v1 v2 g) rfl rfl (by decide) (Nat.le_of_ble_eq_true rfl) (by show 615 + x4.toNatClampNeg + 0 ≤ 601024; omega) (by show 9696 + 2 * x4.toNatClampNeg + 0 ≤ 7293034; omega) (fun r3 => ?_)
  refine J_aload_n rfl rfl (show Dc Y_L_law 1060 (.aload_n 2) 1 1061 from ⟨by decide +kernel, rfl⟩) ?_
  refine J_aload_n rfl rfl (show Dc Y_L_law 1061 (.aload_n 0) 1 1062 from ⟨by decide +kernel, rfl⟩) ?_
  refine J_iload rfl (show Dc Y_L_law 1062 (.iload 4) 2 1064 from ⟨by decide +kernel, rfl⟩) ?_
  refine J_iconst (1 : Int32) rfl (show Dc Y_L_law 1064 (.iconst 1) 1 1065 from ⟨by decide +kernel, rfl⟩) ?_
  refine J_iadd (show Dc Y_L_law 1065 (.iadd) 1 1066 from ⟨by decide +kernel, rfl⟩) ?_
  refine J_sald (show Dc Y_L_law 1066 (.iaload) 1 1067 from ⟨by decide +kernel, rfl⟩) (fun v4 => ?_)
  refine J_aload_n rfl rfl (show Dc Y_L_law 1067 (.aload_n 0) 1 1068 from ⟨by decide +kernel, rfl⟩) ?_
  refine J_iload rfl (show Dc Y_L_law 1068 (.iload 4) 2 1070 from ⟨by decide +kernel, rfl⟩) ?_
  refine J_iconst (2 : Int32) rfl (show Dc Y_L_law 1070 (.iconst 2) 1 1071 from ⟨by decide +kernel, rfl⟩) ?_
  refine J_iadd (show Dc Y_L_law 1071 (.iadd) 1 1072 from ⟨by decide +kernel, rfl⟩) ?_
  refine J_sald (show Dc Y_L_law 1072 (.iaload) 1 1073 from ⟨by decide +kernel, rfl⟩) (fun v5 => ?_)
  refine J_callVi (fun r => r.1) (fun r => r.2) (show Dc Y_L_law 1073 (.invokevirtual 143) 3 1076 from ⟨by decide +kernel, rfl⟩) w_m_RL_143 w_in_X12_hear rfl w_se_X12_hear w_cw_X12_hear (c_X12_hear N x2 v4 v5 r3.2) rfl rfl (by decide) (Nat.le_of_ble_eq_true rfl) (by show 615 + x4.toNatClampNeg + 0 + 0 ≤ 601024; omega) (by show 9696 + 2 * x4.toNatClampNeg + 0 + 0 ≤ 7293034; omega) (fun r6 => ?_)
  refine J_icmp_eq (tg := 1673) (show Dc Y_L_law 1076 (.if_icmp .eq 597) 3 1079 from ⟨by decide +kernel, rfl⟩) (by decide) (fun h => ?_) (fun h => ?_)
  · exact J_mono (by show 615 + x4.toNatClampNeg + 0 + 0 ≤ 615 + x4.toNatClampNeg + 1; omega) (by show 9696 + 2 * x4.toNatClampNeg + 0 + 0 ≤ 9696 + 2 * x4.toNatClampNeg + 6; omega) <| j_L_law_1673 hst N x0 x1 x2 x3 x4 r6.2 h0 hL23
  · refine J_map (f := Sum.inr) (fun _ h => h) ?_
    refine J_iconst (0 : Int32) rfl (show Dc Y_L_law 1079 (.iconst 0) 1 1080 from ⟨by decide +kernel, rfl⟩) ?_
    exact J_retz rfl (show Dc Y_L_law 1080 (.ireturn) 1 1081 from ⟨by decide +kernel, rfl⟩) rfl (h0 _ _) (by show 615 + x4.toNatClampNeg + 0 + 0 ≤ 601024; omega) (by show 9696 + 2 * x4.toNatClampNeg + 0 + 0 ≤ 7293034; omega)

theorem j_L_law_1081 {X : ZX} (hst : (xl X).stackTraces = false) (N : Nat) (x0 : Nat) (x1 : Nat) (x2 : Nat) (x3 : Nat) (x4 : Int32)   (g : ZS) {K : ((Int32 × ZS) ⊕ (Int32 × ZS)) → Prop} (h0 : ∀ v g, K (.inr (v, g)) → xK X (some (.int v)) g) (hL23 : ∀ s, K (.inl s) → zG Y_L_law X (615 + s.1.toNatClampNeg) (9696 + 2 * s.1.toNatClampNeg) 23 [some (.ref x0), some (.ref x1), some (.ref x2), some (.ref x3), some (.int s.1), none, none, none] [] s.2) : J Y_L_law X (615 + x4.toNatClampNeg) (9696 + 2 * x4.toNatClampNeg) 1081 [some (.ref x0), some (.ref x1), some (.ref x2), some (.ref x3), some (.int x4), none, none, none] [] g (f_L_law_1081 N x0 x1 x2 x3 x4 g) K := by
  unfold f_L_law_1081
  refine J_cap (fun hi => ?_)
  refine J_aload_n rfl rfl (show Dc Y_L_law 1081 (.aload_n 1) 1 1082 from ⟨by decide +kernel, rfl⟩) ?_
  refine J_aload_n rfl rfl (show Dc Y_L_law 1082 (.aload_n 0) 1 1083 from ⟨by decide +kernel, rfl⟩) ?_
  refine J_iload rfl (show Dc Y_L_law 1083 (.iload 4) 2 1085 from ⟨by decide +kernel, rfl⟩) ?_
  refine J_iconst (1 : Int32) rfl (show Dc Y_L_law 1085 (.iconst 1) 1 1086 from ⟨by decide +kernel, rfl⟩) ?_
  refine J_iadd (show Dc Y_L_law 1086 (.iadd) 1 1087 from ⟨by decide +kernel, rfl⟩) ?_
  refine J_sald (show Dc Y_L_law 1087 (.iaload) 1 1088 from ⟨by decide +kernel, rfl⟩) (fun v1 => ?_)
  refine J_aload_n rfl rfl (show Dc Y_L_law 1088 (.aload_n 0) 1 1089 from ⟨by decide +kernel, rfl⟩) ?_
  refine J_iload rfl (show Dc Y_L_law 1089 (.iload 4) 2 1091 from ⟨by decide +kernel, rfl⟩) ?_
  refine J_iconst (2 : Int32) rfl (show Dc Y_L_law 1091 (.iconst 2) 1 1092 from ⟨by decide +kernel, rfl⟩) ?_
  refine J_iadd (show Dc Y_L_law 1092 (.iadd) 1 1093 from ⟨by decide +kernel, rfl⟩) ?_
  refine J_sald (show Dc Y_L_law 1093 (.iaload) 1 1094 from ⟨by decide +kernel, rfl⟩) (fun v2 => ?_)
  refine J_callVi (fun r => r.1) (fun r => r.2) (show Dc Y_L_law 1094 (.invokevirtual 144) 3 1097 from ⟨by decide +kernel, rfl⟩) w_m_RL_144 w_in_X11_gain rfl w_se_X11_gain w_cw_X11_gain (c_X11_gain N x1 v1 v2 g) rfl rfl (by decide) (Nat.le_of_ble_eq_true rfl) (by show 615 + x4.toNatClampNeg + 0 ≤ 601024; omega) (by show 9696 + 2 * x4.toNatClampNeg + 0 ≤ 7293034; omega) (fun r3 => ?_)
  refine J_aload_n rfl rfl (show Dc Y_L_law 1097 (.aload_n 2) 1 1098 from ⟨by decide +kernel, rfl⟩) ?_
  refine J_aload_n rfl rfl (show Dc Y_L_law 1098 (.aload_n 0) 1 1099 from ⟨by decide +kernel, rfl⟩) ?_
  refine J_iload rfl (show Dc Y_L_law 1099 (.iload 4) 2 1101 from ⟨by decide +kernel, rfl⟩) ?_
  refine J_iconst (1 : Int32) rfl (show Dc Y_L_law 1101 (.iconst 1) 1 1102 from ⟨by decide +kernel, rfl⟩) ?_
  refine J_iadd (show Dc Y_L_law 1102 (.iadd) 1 1103 from ⟨by decide +kernel, rfl⟩) ?_
  refine J_sald (show Dc Y_L_law 1103 (.iaload) 1 1104 from ⟨by decide +kernel, rfl⟩) (fun v4 => ?_)
  refine J_aload_n rfl rfl (show Dc Y_L_law 1104 (.aload_n 0) 1 1105 from ⟨by decide +kernel, rfl⟩) ?_
  refine J_iload rfl (show Dc Y_L_law 1105 (.iload 4) 2 1107 from ⟨by decide +kernel, rfl⟩) ?_
  refine J_iconst (2 : Int32) rfl (show Dc Y_L_law 1107 (.iconst 2) 1 1108 from ⟨by decide +kernel, rfl⟩) ?_
  refine J_iadd (show Dc Y_L_law 1108 (.iadd) 1 1109 from ⟨by decide +kernel, rfl⟩) ?_
  refine J_sald (show Dc Y_L_law 1109 (.iaload) 1 1110 from ⟨by decide +kernel, rfl⟩) (fun v5 => ?_)
  refine J_callVi (fun r => r.1) (fun r => r.2) (show Dc Y_L_law 1110 (.invokevirtual 147) 3 1113 from ⟨by decide +kernel, rfl⟩) w_m_RL_147 w_in_X12_gain rfl w_se_X12_gain w_cw_X12_gain (c_X12_gain N x2 v4 v5 r3.2) rfl rfl (by decide) (Nat.le_of_ble_eq_true rfl) (by show 615 + x4.toNatClampNeg + 0 + 0 ≤ 601024; omega) (by show 9696 + 2 * x4.toNatClampNeg + 0 + 0 ≤ 7293034; omega) (fun r6 => ?_)
  refine J_icmp_eq (tg := 1673) (show Dc Y_L_law 1113 (.if_icmp .eq 560) 3 1116 from ⟨by decide +kernel, rfl⟩) (by decide) (fun h => ?_) (fun h => ?_)
  · exact J_mono (by show 615 + x4.toNatClampNeg + 0 + 0 ≤ 615 + x4.toNatClampNeg + 1; omega) (by show 9696 + 2 * x4.toNatClampNeg + 0 + 0 ≤ 9696 + 2 * x4.toNatClampNeg + 6; omega) <| j_L_law_1673 hst N x0 x1 x2 x3 x4 r6.2 h0 hL23
  · refine J_map (f := Sum.inr) (fun _ h => h) ?_
    refine J_iconst (0 : Int32) rfl (show Dc Y_L_law 1116 (.iconst 0) 1 1117 from ⟨by decide +kernel, rfl⟩) ?_
    exact J_retz rfl (show Dc Y_L_law 1117 (.ireturn) 1 1118 from ⟨by decide +kernel, rfl⟩) rfl (h0 _ _) (by show 615 + x4.toNatClampNeg + 0 + 0 ≤ 601024; omega) (by show 9696 + 2 * x4.toNatClampNeg + 0 + 0 ≤ 7293034; omega)

theorem j_L_law_1118 {X : ZX} (hst : (xl X).stackTraces = false) (N : Nat) (x0 : Nat) (x1 : Nat) (x2 : Nat) (x3 : Nat) (x4 : Int32)   (g : ZS) {K : ((Int32 × ZS) ⊕ (Int32 × ZS)) → Prop} (h0 : ∀ v g, K (.inr (v, g)) → xK X (some (.int v)) g) (hL23 : ∀ s, K (.inl s) → zG Y_L_law X (615 + s.1.toNatClampNeg) (9696 + 2 * s.1.toNatClampNeg) 23 [some (.ref x0), some (.ref x1), some (.ref x2), some (.ref x3), some (.int s.1), none, none, none] [] s.2) : J Y_L_law X (615 + x4.toNatClampNeg) (9696 + 2 * x4.toNatClampNeg) 1118 [some (.ref x0), some (.ref x1), some (.ref x2), some (.ref x3), some (.int x4), none, none, none] [] g (f_L_law_1118 N x0 x1 x2 x3 x4 g) K := by
  unfold f_L_law_1118
  refine J_cap (fun hi => ?_)
  refine J_aload_n rfl rfl (show Dc Y_L_law 1118 (.aload_n 1) 1 1119 from ⟨by decide +kernel, rfl⟩) ?_
  refine J_aload_n rfl rfl (show Dc Y_L_law 1119 (.aload_n 0) 1 1120 from ⟨by decide +kernel, rfl⟩) ?_
  refine J_iload rfl (show Dc Y_L_law 1120 (.iload 4) 2 1122 from ⟨by decide +kernel, rfl⟩) ?_
  refine J_iconst (1 : Int32) rfl (show Dc Y_L_law 1122 (.iconst 1) 1 1123 from ⟨by decide +kernel, rfl⟩) ?_
  refine J_iadd (show Dc Y_L_law 1123 (.iadd) 1 1124 from ⟨by decide +kernel, rfl⟩) ?_
  refine J_sald (show Dc Y_L_law 1124 (.iaload) 1 1125 from ⟨by decide +kernel, rfl⟩) (fun v1 => ?_)
  refine J_aload_n rfl rfl (show Dc Y_L_law 1125 (.aload_n 0) 1 1126 from ⟨by decide +kernel, rfl⟩) ?_
  refine J_iload rfl (show Dc Y_L_law 1126 (.iload 4) 2 1128 from ⟨by decide +kernel, rfl⟩) ?_
  refine J_iconst (2 : Int32) rfl (show Dc Y_L_law 1128 (.iconst 2) 1 1129 from ⟨by decide +kernel, rfl⟩) ?_
  refine J_iadd (show Dc Y_L_law 1129 (.iadd) 1 1130 from ⟨by decide +kernel, rfl⟩) ?_
  refine J_sald (show Dc Y_L_law 1130 (.iaload) 1 1131 from ⟨by decide +kernel, rfl⟩) (fun v2 => ?_)
  refine J_callVi (fun r => r.1) (fun r => r.2) (show Dc Y_L_law 1131 (.invokevirtual 148) 3 1134 from ⟨by decide +kernel, rfl⟩) w_m_RL_148 w_in_X11_blend rfl w_se_X11_blend w_cw_X11_blend (c_X11_blend N x1 v1 v2 g) rfl rfl (by decide) (Nat.le_of_ble_eq_true rfl) (by show 615 + x4.toNatClampNeg + 0 ≤ 601024; omega) (by show 9696 + 2 * x4.toNatClampNeg + 0 ≤ 7293034; omega) (fun r3 => ?_)
  refine J_aload_n rfl rfl (show Dc Y_L_law 1134 (.aload_n 2) 1 1135 from ⟨by decide +kernel, rfl⟩) ?_
  refine J_aload_n rfl rfl (show Dc Y_L_law 1135 (.aload_n 0) 1 1136 from ⟨by decide +kernel, rfl⟩) ?_
  refine J_iload rfl (show Dc Y_L_law 1136 (.iload 4) 2 1138 from ⟨by decide +kernel, rfl⟩) ?_
  refine J_iconst (1 : Int32) rfl (show Dc Y_L_law 1138 (.iconst 1) 1 1139 from ⟨by decide +kernel, rfl⟩) ?_
  refine J_iadd (show Dc Y_L_law 1139 (.iadd) 1 1140 from ⟨by decide +kernel, rfl⟩) ?_
  refine J_sald (show Dc Y_L_law 1140 (.iaload) 1 1141 from ⟨by decide +kernel, rfl⟩) (fun v4 => ?_)
  refine J_aload_n rfl rfl (show Dc Y_L_law 1141 (.aload_n 0) 1 1142 from ⟨by decide +kernel, rfl⟩) ?_
  refine J_iload rfl (show Dc Y_L_law 1142 (.iload 4) 2 1144 from ⟨by decide +kernel, rfl⟩) ?_
  refine J_iconst (2 : Int32) rfl (show Dc Y_L_law 1144 (.iconst 2) 1 1145 from ⟨by decide +kernel, rfl⟩) ?_
  refine J_iadd (show Dc Y_L_law 1145 (.iadd) 1 1146 from ⟨by decide +kernel, rfl⟩) ?_
  refine J_sald (show Dc Y_L_law 1146 (.iaload) 1 1147 from ⟨by decide +kernel, rfl⟩) (fun v5 => ?_)
  refine J_callVi (fun r => r.1) (fun r => r.2) (show Dc Y_L_law 1147 (.invokevirtual 151) 3 1150 from ⟨by decide +kernel, rfl⟩) w_m_RL_151 w_in_X12_blend rfl w_se_X12_blend w_cw_X12_blend (c_X12_blend N x2 v4 v5 r3.2) rfl rfl (by decide) (Nat.le_of_ble_eq_true rfl) (by show 615 + x4.toNatClampNeg + 0 + 0 ≤ 601024; omega) (by show 9696 + 2 * x4.toNatClampNeg + 0 + 0 ≤ 7293034; omega) (fun r6 => ?_)
  refine J_icmp_eq (tg := 1673) (show Dc Y_L_law 1150 (.if_icmp .eq 523) 3 1153 from ⟨by decide +kernel, rfl⟩) (by decide) (fun h => ?_) (fun h => ?_)
  · exact J_mono (by show 615 + x4.toNatClampNeg + 0 + 0 ≤ 615 + x4.toNatClampNeg + 1; omega) (by show 9696 + 2 * x4.toNatClampNeg + 0 + 0 ≤ 9696 + 2 * x4.toNatClampNeg + 6; omega) <| j_L_law_1673 hst N x0 x1 x2 x3 x4 r6.2 h0 hL23
  · refine J_map (f := Sum.inr) (fun _ h => h) ?_
    refine J_iconst (0 : Int32) rfl (show Dc Y_L_law 1153 (.iconst 0) 1 1154 from ⟨by decide +kernel, rfl⟩) ?_
    exact J_retz rfl (show Dc Y_L_law 1154 (.ireturn) 1 1155 from ⟨by decide +kernel, rfl⟩) rfl (h0 _ _) (by show 615 + x4.toNatClampNeg + 0 + 0 ≤ 601024; omega) (by show 9696 + 2 * x4.toNatClampNeg + 0 + 0 ≤ 7293034; omega)

theorem j_L_law_1155 {X : ZX} (hst : (xl X).stackTraces = false) (N : Nat) (x0 : Nat) (x1 : Nat) (x2 : Nat) (x3 : Nat) (x4 : Int32)   (g : ZS) {K : ((Int32 × ZS) ⊕ (Int32 × ZS)) → Prop} (h0 : ∀ v g, K (.inr (v, g)) → xK X (some (.int v)) g) (hL23 : ∀ s, K (.inl s) → zG Y_L_law X (615 + s.1.toNatClampNeg) (9696 + 2 * s.1.toNatClampNeg) 23 [some (.ref x0), some (.ref x1), some (.ref x2), some (.ref x3), some (.int s.1), none, none, none] [] s.2) : J Y_L_law X (615 + x4.toNatClampNeg) (9696 + 2 * x4.toNatClampNeg) 1155 [some (.ref x0), some (.ref x1), some (.ref x2), some (.ref x3), some (.int x4), none, none, none] [] g (f_L_law_1155 N x0 x1 x2 x3 x4 g) K := by
  unfold f_L_law_1155
  refine J_cap (fun hi => ?_)
  refine J_aload_n rfl rfl (show Dc Y_L_law 1155 (.aload_n 1) 1 1156 from ⟨by decide +kernel, rfl⟩) ?_
  refine J_callVi (fun r => r.1) (fun r => r.2) (show Dc Y_L_law 1156 (.invokevirtual 152) 3 1159 from ⟨by decide +kernel, rfl⟩) w_m_RL_152 w_in_X11_source rfl w_se_X11_source w_cw_X11_source (c_X11_source N x1 g) rfl rfl (by decide) (Nat.le_of_ble_eq_true rfl) (by show 615 + x4.toNatClampNeg + 0 ≤ 601024; omega) (by show 9696 + 2 * x4.toNatClampNeg + 0 ≤ 7293034; omega) (fun r1 => ?_)
  refine J_aload_n rfl rfl (show Dc Y_L_law 1159 (.aload_n 2) 1 1160 from ⟨by decide +kernel, rfl⟩) ?_
  refine J_callVi (fun r => r.1) (fun r => r.2) (show Dc Y_L_law 1160 (.invokevirtual 155) 3 1163 from ⟨by decide +kernel, rfl⟩) w_m_RL_155 w_in_X12_source rfl w_se_X12_source w_cw_X12_source (c_X12_source N x2 r1.2) rfl rfl (by decide) (Nat.le_of_ble_eq_true rfl) (by show 615 + x4.toNatClampNeg + 0 + 0 ≤ 601024; omega) (by show 9696 + 2 * x4.toNatClampNeg + 0 + 0 ≤ 7293034; omega) (fun r2 => ?_)
  refine J_icmp_eq (tg := 1673) (show Dc Y_L_law 1163 (.if_icmp .eq 510) 3 1166 from ⟨by decide +kernel, rfl⟩) (by decide) (fun h => ?_) (fun h => ?_)
  · exact J_mono (by show 615 + x4.toNatClampNeg + 0 + 0 ≤ 615 + x4.toNatClampNeg + 1; omega) (by show 9696 + 2 * x4.toNatClampNeg + 0 + 0 ≤ 9696 + 2 * x4.toNatClampNeg + 6; omega) <| j_L_law_1673 hst N x0 x1 x2 x3 x4 r2.2 h0 hL23
  · refine J_map (f := Sum.inr) (fun _ h => h) ?_
    refine J_iconst (0 : Int32) rfl (show Dc Y_L_law 1166 (.iconst 0) 1 1167 from ⟨by decide +kernel, rfl⟩) ?_
    exact J_retz rfl (show Dc Y_L_law 1167 (.ireturn) 1 1168 from ⟨by decide +kernel, rfl⟩) rfl (h0 _ _) (by show 615 + x4.toNatClampNeg + 0 + 0 ≤ 601024; omega) (by show 9696 + 2 * x4.toNatClampNeg + 0 + 0 ≤ 7293034; omega)

theorem j_L_law_1168 {X : ZX} (hst : (xl X).stackTraces = false) (N : Nat) (x0 : Nat) (x1 : Nat) (x2 : Nat) (x3 : Nat) (x4 : Int32)   (g : ZS) {K : ((Int32 × ZS) ⊕ (Int32 × ZS)) → Prop} (h0 : ∀ v g, K (.inr (v, g)) → xK X (some (.int v)) g) (hL23 : ∀ s, K (.inl s) → zG Y_L_law X (615 + s.1.toNatClampNeg) (9696 + 2 * s.1.toNatClampNeg) 23 [some (.ref x0), some (.ref x1), some (.ref x2), some (.ref x3), some (.int s.1), none, none, none] [] s.2) : J Y_L_law X (615 + x4.toNatClampNeg) (9696 + 2 * x4.toNatClampNeg) 1168 [some (.ref x0), some (.ref x1), some (.ref x2), some (.ref x3), some (.int x4), none, none, none] [] g (f_L_law_1168 N x0 x1 x2 x3 x4 g) K := by
  unfold f_L_law_1168
  refine J_cap (fun hi => ?_)
  refine J_aload_n rfl rfl (show Dc Y_L_law 1168 (.aload_n 1) 1 1169 from ⟨by decide +kernel, rfl⟩) ?_
  refine J_aload_n rfl rfl (show Dc Y_L_law 1169 (.aload_n 0) 1 1170 from ⟨by decide +kernel, rfl⟩) ?_
  refine J_iload rfl (show Dc Y_L_law 1170 (.iload 4) 2 1172 from ⟨by decide +kernel, rfl⟩) ?_
  refine J_iconst (1 : Int32) rfl (show Dc Y_L_law 1172 (.iconst 1) 1 1173 from ⟨by decide +kernel, rfl⟩) ?_
  refine J_iadd (show Dc Y_L_law 1173 (.iadd) 1 1174 from ⟨by decide +kernel, rfl⟩) ?_
  refine J_sald (show Dc Y_L_law 1174 (.iaload) 1 1175 from ⟨by decide +kernel, rfl⟩) (fun v1 => ?_)
  refine J_aload_n rfl rfl (show Dc Y_L_law 1175 (.aload_n 0) 1 1176 from ⟨by decide +kernel, rfl⟩) ?_
  refine J_iload rfl (show Dc Y_L_law 1176 (.iload 4) 2 1178 from ⟨by decide +kernel, rfl⟩) ?_
  refine J_iconst (2 : Int32) rfl (show Dc Y_L_law 1178 (.iconst 2) 1 1179 from ⟨by decide +kernel, rfl⟩) ?_
  refine J_iadd (show Dc Y_L_law 1179 (.iadd) 1 1180 from ⟨by decide +kernel, rfl⟩) ?_
  refine J_sald (show Dc Y_L_law 1180 (.iaload) 1 1181 from ⟨by decide +kernel, rfl⟩) (fun v2 => ?_)
  refine J_callVi (fun r => r.1) (fun r => r.2) (show Dc Y_L_law 1181 (.invokevirtual 156) 3 1184 from ⟨by decide +kernel, rfl⟩) w_m_RL_156 w_in_X11_alike rfl w_se_X11_alike w_cw_X11_alike (c_X11_alike N x1 v1 v2 g) rfl rfl (by decide) (Nat.le_of_ble_eq_true rfl) (by show 615 + x4.toNatClampNeg + 0 ≤ 601024; omega) (by show 9696 + 2 * x4.toNatClampNeg + 0 ≤ 7293034; omega) (fun r3 => ?_)
  refine J_aload_n rfl rfl (show Dc Y_L_law 1184 (.aload_n 2) 1 1185 from ⟨by decide +kernel, rfl⟩) ?_
  refine J_aload_n rfl rfl (show Dc Y_L_law 1185 (.aload_n 0) 1 1186 from ⟨by decide +kernel, rfl⟩) ?_
  refine J_iload rfl (show Dc Y_L_law 1186 (.iload 4) 2 1188 from ⟨by decide +kernel, rfl⟩) ?_
  refine J_iconst (1 : Int32) rfl (show Dc Y_L_law 1188 (.iconst 1) 1 1189 from ⟨by decide +kernel, rfl⟩) ?_
  refine J_iadd (show Dc Y_L_law 1189 (.iadd) 1 1190 from ⟨by decide +kernel, rfl⟩) ?_
  refine J_sald (show Dc Y_L_law 1190 (.iaload) 1 1191 from ⟨by decide +kernel, rfl⟩) (fun v4 => ?_)
  refine J_aload_n rfl rfl (show Dc Y_L_law 1191 (.aload_n 0) 1 1192 from ⟨by decide +kernel, rfl⟩) ?_
  refine J_iload rfl (show Dc Y_L_law 1192 (.iload 4) 2 1194 from ⟨by decide +kernel, rfl⟩) ?_
  refine J_iconst (2 : Int32) rfl (show Dc Y_L_law 1194 (.iconst 2) 1 1195 from ⟨by decide +kernel, rfl⟩) ?_
  refine J_iadd (show Dc Y_L_law 1195 (.iadd) 1 1196 from ⟨by decide +kernel, rfl⟩) ?_
  refine J_sald (show Dc Y_L_law 1196 (.iaload) 1 1197 from ⟨by decide +kernel, rfl⟩) (fun v5 => ?_)
  refine J_callVi (fun r => r.1) (fun r => r.2) (show Dc Y_L_law 1197 (.invokevirtual 159) 3 1200 from ⟨by decide +kernel, rfl⟩) w_m_RL_159 w_in_X12_alike rfl w_se_X12_alike w_cw_X12_alike (c_X12_alike N x2 v4 v5 r3.2) rfl rfl (by decide) (Nat.le_of_ble_eq_true rfl) (by show 615 + x4.toNatClampNeg + 0 + 0 ≤ 601024; omega) (by show 9696 + 2 * x4.toNatClampNeg + 0 + 0 ≤ 7293034; omega) (fun r6 => ?_)
  refine J_icmp_eq (tg := 1673) (show Dc Y_L_law 1200 (.if_icmp .eq 473) 3 1203 from ⟨by decide +kernel, rfl⟩) (by decide) (fun h => ?_) (fun h => ?_)
  · exact J_mono (by show 615 + x4.toNatClampNeg + 0 + 0 ≤ 615 + x4.toNatClampNeg + 1; omega) (by show 9696 + 2 * x4.toNatClampNeg + 0 + 0 ≤ 9696 + 2 * x4.toNatClampNeg + 6; omega) <| j_L_law_1673 hst N x0 x1 x2 x3 x4 r6.2 h0 hL23
  · refine J_map (f := Sum.inr) (fun _ h => h) ?_
    refine J_iconst (0 : Int32) rfl (show Dc Y_L_law 1203 (.iconst 0) 1 1204 from ⟨by decide +kernel, rfl⟩) ?_
    exact J_retz rfl (show Dc Y_L_law 1204 (.ireturn) 1 1205 from ⟨by decide +kernel, rfl⟩) rfl (h0 _ _) (by show 615 + x4.toNatClampNeg + 0 + 0 ≤ 601024; omega) (by show 9696 + 2 * x4.toNatClampNeg + 0 + 0 ≤ 7293034; omega)

theorem j_L_law_1205 {X : ZX} (hst : (xl X).stackTraces = false) (N : Nat) (x0 : Nat) (x1 : Nat) (x2 : Nat) (x3 : Nat) (x4 : Int32)   (g : ZS) {K : ((Int32 × ZS) ⊕ (Int32 × ZS)) → Prop} (h0 : ∀ v g, K (.inr (v, g)) → xK X (some (.int v)) g) (hL23 : ∀ s, K (.inl s) → zG Y_L_law X (615 + s.1.toNatClampNeg) (9696 + 2 * s.1.toNatClampNeg) 23 [some (.ref x0), some (.ref x1), some (.ref x2), some (.ref x3), some (.int s.1), none, none, none] [] s.2) : J Y_L_law X (615 + x4.toNatClampNeg) (9696 + 2 * x4.toNatClampNeg) 1205 [some (.ref x0), some (.ref x1), some (.ref x2), some (.ref x3), some (.int x4), none, none, none] [] g (f_L_law_1205 N x0 x1 x2 x3 x4 g) K := by
  unfold f_L_law_1205
  refine J_cap (fun hi => ?_)
  refine J_aload_n rfl rfl (show Dc Y_L_law 1205 (.aload_n 1) 1 1206 from ⟨by decide +kernel, rfl⟩) ?_
  refine J_aload_n rfl rfl (show Dc Y_L_law 1206 (.aload_n 0) 1 1207 from ⟨by decide +kernel, rfl⟩) ?_
  refine J_iload rfl (show Dc Y_L_law 1207 (.iload 4) 2 1209 from ⟨by decide +kernel, rfl⟩) ?_
  refine J_iconst (1 : Int32) rfl (show Dc Y_L_law 1209 (.iconst 1) 1 1210 from ⟨by decide +kernel, rfl⟩) ?_
  refine J_iadd (show Dc Y_L_law 1210 (.iadd) 1 1211 from ⟨by decide +kernel, rfl⟩) ?_
  refine J_sald (show Dc Y_L_law 1211 (.iaload) 1 1212 from ⟨by decide +kernel, rfl⟩) (fun v1 => ?_)
  refine J_aload_n rfl rfl (show Dc Y_L_law 1212 (.aload_n 0) 1 1213 from ⟨by decide +kernel, rfl⟩) ?_
  refine J_iload rfl (show Dc Y_L_law 1213 (.iload 4) 2 1215 from ⟨by decide +kernel, rfl⟩) ?_
  refine J_iconst (2 : Int32) rfl (show Dc Y_L_law 1215 (.iconst 2) 1 1216 from ⟨by decide +kernel, rfl⟩) ?_
  refine J_iadd (show Dc Y_L_law 1216 (.iadd) 1 1217 from ⟨by decide +kernel, rfl⟩) ?_
  refine J_sald (show Dc Y_L_law 1217 (.iaload) 1 1218 from ⟨by decide +kernel, rfl⟩) (fun v2 => ?_)
  refine J_callVi (fun r => r.1) (fun r => r.2) (show Dc Y_L_law 1218 (.invokevirtual 160) 3 1221 from ⟨by decide +kernel, rfl⟩) w_m_RL_160 w_in_X11_unlike rfl w_se_X11_unlike w_cw_X11_unlike (c_X11_unlike N x1 v1 v2 g) rfl rfl (by decide) (Nat.le_of_ble_eq_true rfl) (by show 615 + x4.toNatClampNeg + 0 ≤ 601024; omega) (by show 9696 + 2 * x4.toNatClampNeg + 0 ≤ 7293034; omega) (fun r3 => ?_)
  refine J_aload_n rfl rfl (show Dc Y_L_law 1221 (.aload_n 2) 1 1222 from ⟨by decide +kernel, rfl⟩) ?_
  refine J_aload_n rfl rfl (show Dc Y_L_law 1222 (.aload_n 0) 1 1223 from ⟨by decide +kernel, rfl⟩) ?_
  refine J_iload rfl (show Dc Y_L_law 1223 (.iload 4) 2 1225 from ⟨by decide +kernel, rfl⟩) ?_
  refine J_iconst (1 : Int32) rfl (show Dc Y_L_law 1225 (.iconst 1) 1 1226 from ⟨by decide +kernel, rfl⟩) ?_
  refine J_iadd (show Dc Y_L_law 1226 (.iadd) 1 1227 from ⟨by decide +kernel, rfl⟩) ?_
  refine J_sald (show Dc Y_L_law 1227 (.iaload) 1 1228 from ⟨by decide +kernel, rfl⟩) (fun v4 => ?_)
  refine J_aload_n rfl rfl (show Dc Y_L_law 1228 (.aload_n 0) 1 1229 from ⟨by decide +kernel, rfl⟩) ?_
  refine J_iload rfl (show Dc Y_L_law 1229 (.iload 4) 2 1231 from ⟨by decide +kernel, rfl⟩) ?_
  refine J_iconst (2 : Int32) rfl (show Dc Y_L_law 1231 (.iconst 2) 1 1232 from ⟨by decide +kernel, rfl⟩) ?_
  refine J_iadd (show Dc Y_L_law 1232 (.iadd) 1 1233 from ⟨by decide +kernel, rfl⟩) ?_
  refine J_sald (show Dc Y_L_law 1233 (.iaload) 1 1234 from ⟨by decide +kernel, rfl⟩) (fun v5 => ?_)
  refine J_callVi (fun r => r.1) (fun r => r.2) (show Dc Y_L_law 1234 (.invokevirtual 163) 3 1237 from ⟨by decide +kernel, rfl⟩) w_m_RL_163 w_in_X12_unlike rfl w_se_X12_unlike w_cw_X12_unlike (c_X12_unlike N x2 v4 v5 r3.2) rfl rfl (by decide) (Nat.le_of_ble_eq_true rfl) (by show 615 + x4.toNatClampNeg + 0 + 0 ≤ 601024; omega) (by show 9696 + 2 * x4.toNatClampNeg + 0 + 0 ≤ 7293034; omega) (fun r6 => ?_)
  refine J_icmp_eq (tg := 1673) (show Dc Y_L_law 1237 (.if_icmp .eq 436) 3 1240 from ⟨by decide +kernel, rfl⟩) (by decide) (fun h => ?_) (fun h => ?_)
  · exact J_mono (by show 615 + x4.toNatClampNeg + 0 + 0 ≤ 615 + x4.toNatClampNeg + 1; omega) (by show 9696 + 2 * x4.toNatClampNeg + 0 + 0 ≤ 9696 + 2 * x4.toNatClampNeg + 6; omega) <| j_L_law_1673 hst N x0 x1 x2 x3 x4 r6.2 h0 hL23
  · refine J_map (f := Sum.inr) (fun _ h => h) ?_
    refine J_iconst (0 : Int32) rfl (show Dc Y_L_law 1240 (.iconst 0) 1 1241 from ⟨by decide +kernel, rfl⟩) ?_
    exact J_retz rfl (show Dc Y_L_law 1241 (.ireturn) 1 1242 from ⟨by decide +kernel, rfl⟩) rfl (h0 _ _) (by show 615 + x4.toNatClampNeg + 0 + 0 ≤ 601024; omega) (by show 9696 + 2 * x4.toNatClampNeg + 0 + 0 ≤ 7293034; omega)

theorem j_L_law_1242 {X : ZX} (hst : (xl X).stackTraces = false) (N : Nat) (x0 : Nat) (x1 : Nat) (x2 : Nat) (x3 : Nat) (x4 : Int32)   (g : ZS) {K : ((Int32 × ZS) ⊕ (Int32 × ZS)) → Prop} (h0 : ∀ v g, K (.inr (v, g)) → xK X (some (.int v)) g) (hL23 : ∀ s, K (.inl s) → zG Y_L_law X (615 + s.1.toNatClampNeg) (9696 + 2 * s.1.toNatClampNeg) 23 [some (.ref x0), some (.ref x1), some (.ref x2), some (.ref x3), some (.int s.1), none, none, none] [] s.2) : J Y_L_law X (615 + x4.toNatClampNeg) (9696 + 2 * x4.toNatClampNeg) 1242 [some (.ref x0), some (.ref x1), some (.ref x2), some (.ref x3), some (.int x4), none, none, none] [] g (f_L_law_1242 N x0 x1 x2 x3 x4 g) K := by
  unfold f_L_law_1242
  refine J_cap (fun hi => ?_)
  refine J_aload_n rfl rfl (show Dc Y_L_law 1242 (.aload_n 1) 1 1243 from ⟨by decide +kernel, rfl⟩) ?_
  refine J_aload_n rfl rfl (show Dc Y_L_law 1243 (.aload_n 0) 1 1244 from ⟨by decide +kernel, rfl⟩) ?_
  refine J_iload rfl (show Dc Y_L_law 1244 (.iload 4) 2 1246 from ⟨by decide +kernel, rfl⟩) ?_
  refine J_iconst (1 : Int32) rfl (show Dc Y_L_law 1246 (.iconst 1) 1 1247 from ⟨by decide +kernel, rfl⟩) ?_
  refine J_iadd (show Dc Y_L_law 1247 (.iadd) 1 1248 from ⟨by decide +kernel, rfl⟩) ?_
  refine J_sald (show Dc Y_L_law 1248 (.iaload) 1 1249 from ⟨by decide +kernel, rfl⟩) (fun v1 => ?_)
  refine J_aload_n rfl rfl (show Dc Y_L_law 1249 (.aload_n 0) 1 1250 from ⟨by decide +kernel, rfl⟩) ?_
  refine J_iload rfl (show Dc Y_L_law 1250 (.iload 4) 2 1252 from ⟨by decide +kernel, rfl⟩) ?_
  refine J_iconst (2 : Int32) rfl (show Dc Y_L_law 1252 (.iconst 2) 1 1253 from ⟨by decide +kernel, rfl⟩) ?_
  refine J_iadd (show Dc Y_L_law 1253 (.iadd) 1 1254 from ⟨by decide +kernel, rfl⟩) ?_
  refine J_sald (show Dc Y_L_law 1254 (.iaload) 1 1255 from ⟨by decide +kernel, rfl⟩) (fun v2 => ?_)
  refine J_callVi (fun r => r.1) (fun r => r.2) (show Dc Y_L_law 1255 (.invokevirtual 164) 3 1258 from ⟨by decide +kernel, rfl⟩) w_m_RL_164 w_in_X11_before rfl w_se_X11_before w_cw_X11_before (c_X11_before x1 v1 v2 g) rfl rfl (by decide) (Nat.le_of_ble_eq_true rfl) (by show 615 + x4.toNatClampNeg + 0 ≤ 601024; omega) (by show 9696 + 2 * x4.toNatClampNeg + 0 ≤ 7293034; omega) (fun r3 => ?_)
  refine J_aload_n rfl rfl (show Dc Y_L_law 1258 (.aload_n 2) 1 1259 from ⟨by decide +kernel, rfl⟩) ?_
  refine J_aload_n rfl rfl (show Dc Y_L_law 1259 (.aload_n 0) 1 1260 from ⟨by decide +kernel, rfl⟩) ?_
  refine J_iload rfl (show Dc Y_L_law 1260 (.iload 4) 2 1262 from ⟨by decide +kernel, rfl⟩) ?_
  refine J_iconst (1 : Int32) rfl (show Dc Y_L_law 1262 (.iconst 1) 1 1263 from ⟨by decide +kernel, rfl⟩) ?_
  refine J_iadd (show Dc Y_L_law 1263 (.iadd) 1 1264 from ⟨by decide +kernel, rfl⟩) ?_
  refine J_sald (show Dc Y_L_law 1264 (.iaload) 1 1265 from ⟨by decide +kernel, rfl⟩) (fun v4 => ?_)
  refine J_aload_n rfl rfl (show Dc Y_L_law 1265 (.aload_n 0) 1 1266 from ⟨by decide +kernel, rfl⟩) ?_
  refine J_iload rfl (show Dc Y_L_law 1266 (.iload 4) 2 1268 from ⟨by decide +kernel, rfl⟩) ?_
  refine J_iconst (2 : Int32) rfl (show Dc Y_L_law 1268 (.iconst 2) 1 1269 from ⟨by decide +kernel, rfl⟩) ?_
  refine J_iadd (show Dc Y_L_law 1269 (.iadd) 1 1270 from ⟨by decide +kernel, rfl⟩) ?_
  refine J_sald (show Dc Y_L_law 1270 (.iaload) 1 1271 from ⟨by decide +kernel, rfl⟩) (fun v5 => ?_)
  refine J_callVi (fun r => r.1) (fun r => r.2) (show Dc Y_L_law 1271 (.invokevirtual 167) 3 1274 from ⟨by decide +kernel, rfl⟩) w_m_RL_167 w_in_X12_before rfl w_se_X12_before w_cw_X12_before (c_X12_before x2 v4 v5 r3.2) rfl rfl (by decide) (Nat.le_of_ble_eq_true rfl) (by show 615 + x4.toNatClampNeg + 0 + 0 ≤ 601024; omega) (by show 9696 + 2 * x4.toNatClampNeg + 0 + 0 ≤ 7293034; omega) (fun r6 => ?_)
  refine J_icmp_eq (tg := 1673) (show Dc Y_L_law 1274 (.if_icmp .eq 399) 3 1277 from ⟨by decide +kernel, rfl⟩) (by decide) (fun h => ?_) (fun h => ?_)
  · exact J_mono (by show 615 + x4.toNatClampNeg + 0 + 0 ≤ 615 + x4.toNatClampNeg + 1; omega) (by show 9696 + 2 * x4.toNatClampNeg + 0 + 0 ≤ 9696 + 2 * x4.toNatClampNeg + 6; omega) <| j_L_law_1673 hst N x0 x1 x2 x3 x4 r6.2 h0 hL23
  · refine J_map (f := Sum.inr) (fun _ h => h) ?_
    refine J_iconst (0 : Int32) rfl (show Dc Y_L_law 1277 (.iconst 0) 1 1278 from ⟨by decide +kernel, rfl⟩) ?_
    exact J_retz rfl (show Dc Y_L_law 1278 (.ireturn) 1 1279 from ⟨by decide +kernel, rfl⟩) rfl (h0 _ _) (by show 615 + x4.toNatClampNeg + 0 + 0 ≤ 601024; omega) (by show 9696 + 2 * x4.toNatClampNeg + 0 + 0 ≤ 7293034; omega)

theorem j_L_law_1279 {X : ZX} (hst : (xl X).stackTraces = false) (N : Nat) (x0 : Nat) (x1 : Nat) (x2 : Nat) (x3 : Nat) (x4 : Int32)   (g : ZS) {K : ((Int32 × ZS) ⊕ (Int32 × ZS)) → Prop} (h0 : ∀ v g, K (.inr (v, g)) → xK X (some (.int v)) g) (hL23 : ∀ s, K (.inl s) → zG Y_L_law X (615 + s.1.toNatClampNeg) (9696 + 2 * s.1.toNatClampNeg) 23 [some (.ref x0), some (.ref x1), some (.ref x2), some (.ref x3), some (.int s.1), none, none, none] [] s.2) : J Y_L_law X (615 + x4.toNatClampNeg) (9696 + 2 * x4.toNatClampNeg) 1279 [some (.ref x0), some (.ref x1), some (.ref x2), some (.ref x3), some (.int x4), none, none, none] [] g (f_L_law_1279 N x0 x1 x2 x3 x4 g) K := by
  unfold f_L_law_1279
  refine J_cap (fun hi => ?_)
  refine J_aload_n rfl rfl (show Dc Y_L_law 1279 (.aload_n 1) 1 1280 from ⟨by decide +kernel, rfl⟩) ?_
  refine J_callVi (fun r => r.1) (fun r => r.2) (show Dc Y_L_law 1280 (.invokevirtual 168) 3 1283 from ⟨by decide +kernel, rfl⟩) w_m_RL_168 w_in_X11_forget rfl w_se_X11_forget w_cw_X11_forget (c_X11_forget x1 g) rfl rfl (by decide) (Nat.le_of_ble_eq_true rfl) (by show 615 + x4.toNatClampNeg + 0 ≤ 601024; omega) (by show 9696 + 2 * x4.toNatClampNeg + 0 ≤ 7293034; omega) (fun r1 => ?_)
  refine J_aload_n rfl rfl (show Dc Y_L_law 1283 (.aload_n 2) 1 1284 from ⟨by decide +kernel, rfl⟩) ?_
  refine J_callVi (fun r => r.1) (fun r => r.2) (show Dc Y_L_law 1284 (.invokevirtual 171) 3 1287 from ⟨by decide +kernel, rfl⟩) w_m_RL_171 w_in_X12_forget rfl w_se_X12_forget w_cw_X12_forget (c_X12_forget x2 r1.2) rfl rfl (by decide) (Nat.le_of_ble_eq_true rfl) (by show 615 + x4.toNatClampNeg + 0 + 0 ≤ 601024; omega) (by show 9696 + 2 * x4.toNatClampNeg + 0 + 0 ≤ 7293034; omega) (fun r2 => ?_)
  refine J_icmp_eq (tg := 1673) (show Dc Y_L_law 1287 (.if_icmp .eq 386) 3 1290 from ⟨by decide +kernel, rfl⟩) (by decide) (fun h => ?_) (fun h => ?_)
  · exact J_mono (by show 615 + x4.toNatClampNeg + 0 + 0 ≤ 615 + x4.toNatClampNeg + 1; omega) (by show 9696 + 2 * x4.toNatClampNeg + 0 + 0 ≤ 9696 + 2 * x4.toNatClampNeg + 6; omega) <| j_L_law_1673 hst N x0 x1 x2 x3 x4 r2.2 h0 hL23
  · refine J_map (f := Sum.inr) (fun _ h => h) ?_
    refine J_iconst (0 : Int32) rfl (show Dc Y_L_law 1290 (.iconst 0) 1 1291 from ⟨by decide +kernel, rfl⟩) ?_
    exact J_retz rfl (show Dc Y_L_law 1291 (.ireturn) 1 1292 from ⟨by decide +kernel, rfl⟩) rfl (h0 _ _) (by show 615 + x4.toNatClampNeg + 0 + 0 ≤ 601024; omega) (by show 9696 + 2 * x4.toNatClampNeg + 0 + 0 ≤ 7293034; omega)

theorem j_L_law_1292 {X : ZX} (hst : (xl X).stackTraces = false) (N : Nat) (x0 : Nat) (x1 : Nat) (x2 : Nat) (x3 : Nat) (x4 : Int32)   (g : ZS) {K : ((Int32 × ZS) ⊕ (Int32 × ZS)) → Prop} (h0 : ∀ v g, K (.inr (v, g)) → xK X (some (.int v)) g) (hL23 : ∀ s, K (.inl s) → zG Y_L_law X (615 + s.1.toNatClampNeg) (9696 + 2 * s.1.toNatClampNeg) 23 [some (.ref x0), some (.ref x1), some (.ref x2), some (.ref x3), some (.int s.1), none, none, none] [] s.2) : J Y_L_law X (615 + x4.toNatClampNeg) (9696 + 2 * x4.toNatClampNeg) 1292 [some (.ref x0), some (.ref x1), some (.ref x2), some (.ref x3), some (.int x4), none, none, none] [] g (f_L_law_1292 N x0 x1 x2 x3 x4 g) K := by
  unfold f_L_law_1292
  refine J_cap (fun hi => ?_)
  refine J_aload_n rfl rfl (show Dc Y_L_law 1292 (.aload_n 1) 1 1293 from ⟨by decide +kernel, rfl⟩) ?_
  refine J_callVi (fun r => r.1) (fun r => r.2) (show Dc Y_L_law 1293 (.invokevirtual 172) 3 1296 from ⟨by decide +kernel, rfl⟩) w_m_RL_172 w_in_X11_clash rfl w_se_X11_clash w_cw_X11_clash (c_X11_clash N x1 g) rfl rfl (by decide) (Nat.le_of_ble_eq_true rfl) (by show 615 + x4.toNatClampNeg + 0 ≤ 601024; omega) (by show 9696 + 2 * x4.toNatClampNeg + 0 ≤ 7293034; omega) (fun r1 => ?_)
  refine J_aload_n rfl rfl (show Dc Y_L_law 1296 (.aload_n 2) 1 1297 from ⟨by decide +kernel, rfl⟩) ?_
  refine J_callVi (fun r => r.1) (fun r => r.2) (show Dc Y_L_law 1297 (.invokevirtual 175) 3 1300 from ⟨by decide +kernel, rfl⟩) w_m_RL_175 w_in_X12_clash rfl w_se_X12_clash w_cw_X12_clash (c_X12_clash N x2 r1.2) rfl rfl (by decide) (Nat.le_of_ble_eq_true rfl) (by show 615 + x4.toNatClampNeg + 0 + 0 ≤ 601024; omega) (by show 9696 + 2 * x4.toNatClampNeg + 0 + 0 ≤ 7293034; omega) (fun r2 => ?_)
  refine J_icmp_eq (tg := 1673) (show Dc Y_L_law 1300 (.if_icmp .eq 373) 3 1303 from ⟨by decide +kernel, rfl⟩) (by decide) (fun h => ?_) (fun h => ?_)
  · exact J_mono (by show 615 + x4.toNatClampNeg + 0 + 0 ≤ 615 + x4.toNatClampNeg + 1; omega) (by show 9696 + 2 * x4.toNatClampNeg + 0 + 0 ≤ 9696 + 2 * x4.toNatClampNeg + 6; omega) <| j_L_law_1673 hst N x0 x1 x2 x3 x4 r2.2 h0 hL23
  · refine J_map (f := Sum.inr) (fun _ h => h) ?_
    refine J_iconst (0 : Int32) rfl (show Dc Y_L_law 1303 (.iconst 0) 1 1304 from ⟨by decide +kernel, rfl⟩) ?_
    exact J_retz rfl (show Dc Y_L_law 1304 (.ireturn) 1 1305 from ⟨by decide +kernel, rfl⟩) rfl (h0 _ _) (by show 615 + x4.toNatClampNeg + 0 + 0 ≤ 601024; omega) (by show 9696 + 2 * x4.toNatClampNeg + 0 + 0 ≤ 7293034; omega)

theorem j_L_law_1305 {X : ZX} (hst : (xl X).stackTraces = false) (N : Nat) (x0 : Nat) (x1 : Nat) (x2 : Nat) (x3 : Nat) (x4 : Int32)   (g : ZS) {K : ((Int32 × ZS) ⊕ (Int32 × ZS)) → Prop} (h0 : ∀ v g, K (.inr (v, g)) → xK X (some (.int v)) g) (hL23 : ∀ s, K (.inl s) → zG Y_L_law X (615 + s.1.toNatClampNeg) (9696 + 2 * s.1.toNatClampNeg) 23 [some (.ref x0), some (.ref x1), some (.ref x2), some (.ref x3), some (.int s.1), none, none, none] [] s.2) : J Y_L_law X (615 + x4.toNatClampNeg) (9696 + 2 * x4.toNatClampNeg) 1305 [some (.ref x0), some (.ref x1), some (.ref x2), some (.ref x3), some (.int x4), none, none, none] [] g (f_L_law_1305 N x0 x1 x2 x3 x4 g) K := by
  unfold f_L_law_1305
  refine J_cap (fun hi => ?_)
  refine J_aload_n rfl rfl (show Dc Y_L_law 1305 (.aload_n 1) 1 1306 from ⟨by decide +kernel, rfl⟩) ?_
  refine J_callVi (fun r => r.1) (fun r => r.2) (show Dc Y_L_law 1306 (.invokevirtual 176) 3 1309 from ⟨by decide +kernel, rfl⟩) w_m_RL_176 w_in_X11_drop rfl w_se_X11_drop w_cw_X11_drop (c_X11_drop N x1 g) rfl rfl (by decide) (Nat.le_of_ble_eq_true rfl) (by show 615 + x4.toNatClampNeg + 0 ≤ 601024; omega) (by show 9696 + 2 * x4.toNatClampNeg + 0 ≤ 7293034; omega) (fun r1 => ?_)
  refine J_aload_n rfl rfl (show Dc Y_L_law 1309 (.aload_n 2) 1 1310 from ⟨by decide +kernel, rfl⟩) ?_
  refine J_callVi (fun r => r.1) (fun r => r.2) (show Dc Y_L_law 1310 (.invokevirtual 179) 3 1313 from ⟨by decide +kernel, rfl⟩) w_m_RL_179 w_in_X12_drop rfl w_se_X12_drop w_cw_X12_drop (c_X12_drop N x2 r1.2) rfl rfl (by decide) (Nat.le_of_ble_eq_true rfl) (by show 615 + x4.toNatClampNeg + 0 + 0 ≤ 601024; omega) (by show 9696 + 2 * x4.toNatClampNeg + 0 + 0 ≤ 7293034; omega) (fun r2 => ?_)
  refine J_icmp_eq (tg := 1673) (show Dc Y_L_law 1313 (.if_icmp .eq 360) 3 1316 from ⟨by decide +kernel, rfl⟩) (by decide) (fun h => ?_) (fun h => ?_)
  · exact J_mono (by show 615 + x4.toNatClampNeg + 0 + 0 ≤ 615 + x4.toNatClampNeg + 1; omega) (by show 9696 + 2 * x4.toNatClampNeg + 0 + 0 ≤ 9696 + 2 * x4.toNatClampNeg + 6; omega) <| j_L_law_1673 hst N x0 x1 x2 x3 x4 r2.2 h0 hL23
  · refine J_map (f := Sum.inr) (fun _ h => h) ?_
    refine J_iconst (0 : Int32) rfl (show Dc Y_L_law 1316 (.iconst 0) 1 1317 from ⟨by decide +kernel, rfl⟩) ?_
    exact J_retz rfl (show Dc Y_L_law 1317 (.ireturn) 1 1318 from ⟨by decide +kernel, rfl⟩) rfl (h0 _ _) (by show 615 + x4.toNatClampNeg + 0 + 0 ≤ 601024; omega) (by show 9696 + 2 * x4.toNatClampNeg + 0 + 0 ≤ 7293034; omega)

theorem j_L_law_1318 {X : ZX} (hst : (xl X).stackTraces = false) (N : Nat) (x0 : Nat) (x1 : Nat) (x2 : Nat) (x3 : Nat) (x4 : Int32)   (g : ZS) {K : ((Int32 × ZS) ⊕ (Int32 × ZS)) → Prop} (h0 : ∀ v g, K (.inr (v, g)) → xK X (some (.int v)) g) (hL23 : ∀ s, K (.inl s) → zG Y_L_law X (615 + s.1.toNatClampNeg) (9696 + 2 * s.1.toNatClampNeg) 23 [some (.ref x0), some (.ref x1), some (.ref x2), some (.ref x3), some (.int s.1), none, none, none] [] s.2) : J Y_L_law X (615 + x4.toNatClampNeg) (9696 + 2 * x4.toNatClampNeg) 1318 [some (.ref x0), some (.ref x1), some (.ref x2), some (.ref x3), some (.int x4), none, none, none] [] g (f_L_law_1318 N x0 x1 x2 x3 x4 g) K := by
  unfold f_L_law_1318
  refine J_cap (fun hi => ?_)
  refine J_aload_n rfl rfl (show Dc Y_L_law 1318 (.aload_n 1) 1 1319 from ⟨by decide +kernel, rfl⟩) ?_
  refine J_aload_n rfl rfl (show Dc Y_L_law 1319 (.aload_n 0) 1 1320 from ⟨by decide +kernel, rfl⟩) ?_
  refine J_iload rfl (show Dc Y_L_law 1320 (.iload 4) 2 1322 from ⟨by decide +kernel, rfl⟩) ?_
  refine J_iconst (1 : Int32) rfl (show Dc Y_L_law 1322 (.iconst 1) 1 1323 from ⟨by decide +kernel, rfl⟩) ?_
  refine J_iadd (show Dc Y_L_law 1323 (.iadd) 1 1324 from ⟨by decide +kernel, rfl⟩) ?_
  refine J_sald (show Dc Y_L_law 1324 (.iaload) 1 1325 from ⟨by decide +kernel, rfl⟩) (fun v1 => ?_)
  refine J_callVi (fun r => r.1) (fun r => r.2) (show Dc Y_L_law 1325 (.invokevirtual 180) 3 1328 from ⟨by decide +kernel, rfl⟩) w_m_RL_180 w_in_X11_counsels rfl w_se_X11_counsels w_cw_X11_counsels (c_X11_counsels N x1 v1 g) rfl rfl (by decide) (Nat.le_of_ble_eq_true rfl) (by show 615 + x4.toNatClampNeg + 0 ≤ 601024; omega) (by show 9696 + 2 * x4.toNatClampNeg + 0 ≤ 7293034; omega) (fun r2 => ?_)
  refine J_aload_n rfl rfl (show Dc Y_L_law 1328 (.aload_n 2) 1 1329 from ⟨by decide +kernel, rfl⟩) ?_
  refine J_aload_n rfl rfl (show Dc Y_L_law 1329 (.aload_n 0) 1 1330 from ⟨by decide +kernel, rfl⟩) ?_
  refine J_iload rfl (show Dc Y_L_law 1330 (.iload 4) 2 1332 from ⟨by decide +kernel, rfl⟩) ?_
  refine J_iconst (1 : Int32) rfl (show Dc Y_L_law 1332 (.iconst 1) 1 1333 from ⟨by decide +kernel, rfl⟩) ?_
  refine J_iadd (show Dc Y_L_law 1333 (.iadd) 1 1334 from ⟨by decide +kernel, rfl⟩) ?_
  refine J_sald (show Dc Y_L_law 1334 (.iaload) 1 1335 from ⟨by decide +kernel, rfl⟩) (fun v3 => ?_)
  refine J_callVi (fun r => r.1) (fun r => r.2) (show Dc Y_L_law 1335 (.invokevirtual 183) 3 1338 from ⟨by decide +kernel, rfl⟩) w_m_RL_183 w_in_X12_counsels rfl w_se_X12_counsels w_cw_X12_counsels (c_X12_counsels N x2 v3 r2.2) rfl rfl (by decide) (Nat.le_of_ble_eq_true rfl) (by show 615 + x4.toNatClampNeg + 0 + 0 ≤ 601024; omega) (by show 9696 + 2 * x4.toNatClampNeg + 0 + 0 ≤ 7293034; omega) (fun r4 => ?_)
  refine J_icmp_eq (tg := 1673) (show Dc Y_L_law 1338 (.if_icmp .eq 335) 3 1341 from ⟨by decide +kernel, rfl⟩) (by decide) (fun h => ?_) (fun h => ?_)
  · exact J_mono (by show 615 + x4.toNatClampNeg + 0 + 0 ≤ 615 + x4.toNatClampNeg + 1; omega) (by show 9696 + 2 * x4.toNatClampNeg + 0 + 0 ≤ 9696 + 2 * x4.toNatClampNeg + 6; omega) <| j_L_law_1673 hst N x0 x1 x2 x3 x4 r4.2 h0 hL23
  · refine J_map (f := Sum.inr) (fun _ h => h) ?_
    refine J_iconst (0 : Int32) rfl (show Dc Y_L_law 1341 (.iconst 0) 1 1342 from ⟨by decide +kernel, rfl⟩) ?_
    exact J_retz rfl (show Dc Y_L_law 1342 (.ireturn) 1 1343 from ⟨by decide +kernel, rfl⟩) rfl (h0 _ _) (by show 615 + x4.toNatClampNeg + 0 + 0 ≤ 601024; omega) (by show 9696 + 2 * x4.toNatClampNeg + 0 + 0 ≤ 7293034; omega)

theorem j_L_law_1343 {X : ZX} (hst : (xl X).stackTraces = false) (N : Nat) (x0 : Nat) (x1 : Nat) (x2 : Nat) (x3 : Nat) (x4 : Int32)   (g : ZS) {K : ((Int32 × ZS) ⊕ (Int32 × ZS)) → Prop} (h0 : ∀ v g, K (.inr (v, g)) → xK X (some (.int v)) g) (hL23 : ∀ s, K (.inl s) → zG Y_L_law X (615 + s.1.toNatClampNeg) (9696 + 2 * s.1.toNatClampNeg) 23 [some (.ref x0), some (.ref x1), some (.ref x2), some (.ref x3), some (.int s.1), none, none, none] [] s.2) : J Y_L_law X (615 + x4.toNatClampNeg) (9696 + 2 * x4.toNatClampNeg) 1343 [some (.ref x0), some (.ref x1), some (.ref x2), some (.ref x3), some (.int x4), none, none, none] [] g (f_L_law_1343 N x0 x1 x2 x3 x4 g) K := by
  unfold f_L_law_1343
  refine J_cap (fun hi => ?_)
  refine J_aload_n rfl rfl (show Dc Y_L_law 1343 (.aload_n 1) 1 1344 from ⟨by decide +kernel, rfl⟩) ?_
  refine J_aload_n rfl rfl (show Dc Y_L_law 1344 (.aload_n 0) 1 1345 from ⟨by decide +kernel, rfl⟩) ?_
  refine J_iload rfl (show Dc Y_L_law 1345 (.iload 4) 2 1347 from ⟨by decide +kernel, rfl⟩) ?_
  refine J_iconst (1 : Int32) rfl (show Dc Y_L_law 1347 (.iconst 1) 1 1348 from ⟨by decide +kernel, rfl⟩) ?_
  refine J_iadd (show Dc Y_L_law 1348 (.iadd) 1 1349 from ⟨by decide +kernel, rfl⟩) ?_
  refine J_sald (show Dc Y_L_law 1349 (.iaload) 1 1350 from ⟨by decide +kernel, rfl⟩) (fun v1 => ?_)
  refine J_aload_n rfl rfl (show Dc Y_L_law 1350 (.aload_n 0) 1 1351 from ⟨by decide +kernel, rfl⟩) ?_
  refine J_iload rfl (show Dc Y_L_law 1351 (.iload 4) 2 1353 from ⟨by decide +kernel, rfl⟩) ?_
  refine J_iconst (2 : Int32) rfl (show Dc Y_L_law 1353 (.iconst 2) 1 1354 from ⟨by decide +kernel, rfl⟩) ?_
  refine J_iadd (show Dc Y_L_law 1354 (.iadd) 1 1355 from ⟨by decide +kernel, rfl⟩) ?_
  refine J_sald (show Dc Y_L_law 1355 (.iaload) 1 1356 from ⟨by decide +kernel, rfl⟩) (fun v2 => ?_)
  refine J_aload_n rfl rfl (show Dc Y_L_law 1356 (.aload_n 0) 1 1357 from ⟨by decide +kernel, rfl⟩) ?_
  refine J_iload rfl (show Dc Y_L_law 1357 (.iload 4) 2 1359 from ⟨by decide +kernel, rfl⟩) ?_
  refine J_iconst (3 : Int32) rfl (show Dc Y_L_law 1359 (.iconst 3) 1 1360 from ⟨by decide +kernel, rfl⟩) ?_
  refine J_iadd (show Dc Y_L_law 1360 (.iadd) 1 1361 from ⟨by decide +kernel, rfl⟩) ?_
  refine J_sald (show Dc Y_L_law 1361 (.iaload) 1 1362 from ⟨by decide +kernel, rfl⟩) (fun v3 => ?_)
  refine J_callVi (fun r => r.1) (fun r => r.2) (show Dc Y_L_law 1362 (.invokevirtual 184) 3 1365 from ⟨by decide +kernel, rfl⟩) w_m_RL_184 w_in_X11_sure rfl w_se_X11_sure w_cw_X11_sure (c_X11_sure N x1 v1 v2 v3 g) rfl rfl (by decide) (Nat.le_of_ble_eq_true rfl) (by show 615 + x4.toNatClampNeg + 0 ≤ 601024; omega) (by show 9696 + 2 * x4.toNatClampNeg + 0 ≤ 7293034; omega) (fun r4 => ?_)
  refine J_aload_n rfl rfl (show Dc Y_L_law 1365 (.aload_n 2) 1 1366 from ⟨by decide +kernel, rfl⟩) ?_
  refine J_aload_n rfl rfl (show Dc Y_L_law 1366 (.aload_n 0) 1 1367 from ⟨by decide +kernel, rfl⟩) ?_
  refine J_iload rfl (show Dc Y_L_law 1367 (.iload 4) 2 1369 from ⟨by decide +kernel, rfl⟩) ?_
  refine J_iconst (1 : Int32) rfl (show Dc Y_L_law 1369 (.iconst 1) 1 1370 from ⟨by decide +kernel, rfl⟩) ?_
  refine J_iadd (show Dc Y_L_law 1370 (.iadd) 1 1371 from ⟨by decide +kernel, rfl⟩) ?_
  refine J_sald (show Dc Y_L_law 1371 (.iaload) 1 1372 from ⟨by decide +kernel, rfl⟩) (fun v5 => ?_)
  refine J_aload_n rfl rfl (show Dc Y_L_law 1372 (.aload_n 0) 1 1373 from ⟨by decide +kernel, rfl⟩) ?_
  refine J_iload rfl (show Dc Y_L_law 1373 (.iload 4) 2 1375 from ⟨by decide +kernel, rfl⟩) ?_
  refine J_iconst (2 : Int32) rfl (show Dc Y_L_law 1375 (.iconst 2) 1 1376 from ⟨by decide +kernel, rfl⟩) ?_
  refine J_iadd (show Dc Y_L_law 1376 (.iadd) 1 1377 from ⟨by decide +kernel, rfl⟩) ?_
  refine J_sald (show Dc Y_L_law 1377 (.iaload) 1 1378 from ⟨by decide +kernel, rfl⟩) (fun v6 => ?_)
  refine J_aload_n rfl rfl (show Dc Y_L_law 1378 (.aload_n 0) 1 1379 from ⟨by decide +kernel, rfl⟩) ?_
  refine J_iload rfl (show Dc Y_L_law 1379 (.iload 4) 2 1381 from ⟨by decide +kernel, rfl⟩) ?_
  refine J_iconst (3 : Int32) rfl (show Dc Y_L_law 1381 (.iconst 3) 1 1382 from ⟨by decide +kernel, rfl⟩) ?_
  refine J_iadd (show Dc Y_L_law 1382 (.iadd) 1 1383 from ⟨by decide +kernel, rfl⟩) ?_
  refine J_sald (show Dc Y_L_law 1383 (.iaload) 1 1384 from ⟨by decide +kernel, rfl⟩) (fun v7 => ?_)
  refine J_callVi (fun r => r.1) (fun r => r.2) (show Dc Y_L_law 1384 (.invokevirtual 187) 3 1387 from ⟨by decide +kernel, rfl⟩) w_m_RL_187 w_in_X12_sure rfl w_se_X12_sure w_cw_X12_sure (c_X12_sure N x2 v5 v6 v7 r4.2) rfl rfl (by decide) (Nat.le_of_ble_eq_true rfl) (by show 615 + x4.toNatClampNeg + 0 + 0 ≤ 601024; omega) (by show 9696 + 2 * x4.toNatClampNeg + 0 + 0 ≤ 7293034; omega) (fun r8 => ?_)
  refine J_icmp_eq (tg := 1673) (show Dc Y_L_law 1387 (.if_icmp .eq 286) 3 1390 from ⟨by decide +kernel, rfl⟩) (by decide) (fun h => ?_) (fun h => ?_)
  · exact J_mono (by show 615 + x4.toNatClampNeg + 0 + 0 ≤ 615 + x4.toNatClampNeg + 1; omega) (by show 9696 + 2 * x4.toNatClampNeg + 0 + 0 ≤ 9696 + 2 * x4.toNatClampNeg + 6; omega) <| j_L_law_1673 hst N x0 x1 x2 x3 x4 r8.2 h0 hL23
  · refine J_map (f := Sum.inr) (fun _ h => h) ?_
    refine J_iconst (0 : Int32) rfl (show Dc Y_L_law 1390 (.iconst 0) 1 1391 from ⟨by decide +kernel, rfl⟩) ?_
    exact J_retz rfl (show Dc Y_L_law 1391 (.ireturn) 1 1392 from ⟨by decide +kernel, rfl⟩) rfl (h0 _ _) (by show 615 + x4.toNatClampNeg + 0 + 0 ≤ 601024; omega) (by show 9696 + 2 * x4.toNatClampNeg + 0 + 0 ≤ 7293034; omega)

theorem j_L_law_1392 {X : ZX} (hst : (xl X).stackTraces = false) (N : Nat) (x0 : Nat) (x1 : Nat) (x2 : Nat) (x3 : Nat) (x4 : Int32)   (g : ZS) {K : ((Int32 × ZS) ⊕ (Int32 × ZS)) → Prop} (h0 : ∀ v g, K (.inr (v, g)) → xK X (some (.int v)) g) (hL23 : ∀ s, K (.inl s) → zG Y_L_law X (615 + s.1.toNatClampNeg) (9696 + 2 * s.1.toNatClampNeg) 23 [some (.ref x0), some (.ref x1), some (.ref x2), some (.ref x3), some (.int s.1), none, none, none] [] s.2) : J Y_L_law X (615 + x4.toNatClampNeg) (9696 + 2 * x4.toNatClampNeg) 1392 [some (.ref x0), some (.ref x1), some (.ref x2), some (.ref x3), some (.int x4), none, none, none] [] g (f_L_law_1392 N x0 x1 x2 x3 x4 g) K := by
  unfold f_L_law_1392
  refine J_cap (fun hi => ?_)
  refine J_aload_n rfl rfl (show Dc Y_L_law 1392 (.aload_n 1) 1 1393 from ⟨by decide +kernel, rfl⟩) ?_
  refine J_aload_n rfl rfl (show Dc Y_L_law 1393 (.aload_n 0) 1 1394 from ⟨by decide +kernel, rfl⟩) ?_
  refine J_iload rfl (show Dc Y_L_law 1394 (.iload 4) 2 1396 from ⟨by decide +kernel, rfl⟩) ?_
  refine J_iconst (1 : Int32) rfl (show Dc Y_L_law 1396 (.iconst 1) 1 1397 from ⟨by decide +kernel, rfl⟩) ?_
  refine J_iadd (show Dc Y_L_law 1397 (.iadd) 1 1398 from ⟨by decide +kernel, rfl⟩) ?_
  refine J_sald (show Dc Y_L_law 1398 (.iaload) 1 1399 from ⟨by decide +kernel, rfl⟩) (fun v1 => ?_)
  refine J_aload_n rfl rfl (show Dc Y_L_law 1399 (.aload_n 0) 1 1400 from ⟨by decide +kernel, rfl⟩) ?_
  refine J_iload rfl (show Dc Y_L_law 1400 (.iload 4) 2 1402 from ⟨by decide +kernel, rfl⟩) ?_
  refine J_iconst (2 : Int32) rfl (show Dc Y_L_law 1402 (.iconst 2) 1 1403 from ⟨by decide +kernel, rfl⟩) ?_
  refine J_iadd (show Dc Y_L_law 1403 (.iadd) 1 1404 from ⟨by decide +kernel, rfl⟩) ?_
  refine J_sald (show Dc Y_L_law 1404 (.iaload) 1 1405 from ⟨by decide +kernel, rfl⟩) (fun v2 => ?_)
  refine J_callVi (fun r => r.1) (fun r => r.2) (show Dc Y_L_law 1405 (.invokevirtual 188) 3 1408 from ⟨by decide +kernel, rfl⟩) w_m_RL_188 w_in_X11_note rfl w_se_X11_note w_cw_X11_note (c_X11_note x1 v1 v2 g) rfl rfl (by decide) (Nat.le_of_ble_eq_true rfl) (by show 615 + x4.toNatClampNeg + 0 ≤ 601024; omega) (by show 9696 + 2 * x4.toNatClampNeg + 0 ≤ 7293034; omega) (fun r3 => ?_)
  refine J_aload_n rfl rfl (show Dc Y_L_law 1408 (.aload_n 2) 1 1409 from ⟨by decide +kernel, rfl⟩) ?_
  refine J_aload_n rfl rfl (show Dc Y_L_law 1409 (.aload_n 0) 1 1410 from ⟨by decide +kernel, rfl⟩) ?_
  refine J_iload rfl (show Dc Y_L_law 1410 (.iload 4) 2 1412 from ⟨by decide +kernel, rfl⟩) ?_
  refine J_iconst (1 : Int32) rfl (show Dc Y_L_law 1412 (.iconst 1) 1 1413 from ⟨by decide +kernel, rfl⟩) ?_
  refine J_iadd (show Dc Y_L_law 1413 (.iadd) 1 1414 from ⟨by decide +kernel, rfl⟩) ?_
  refine J_sald (show Dc Y_L_law 1414 (.iaload) 1 1415 from ⟨by decide +kernel, rfl⟩) (fun v4 => ?_)
  refine J_aload_n rfl rfl (show Dc Y_L_law 1415 (.aload_n 0) 1 1416 from ⟨by decide +kernel, rfl⟩) ?_
  refine J_iload rfl (show Dc Y_L_law 1416 (.iload 4) 2 1418 from ⟨by decide +kernel, rfl⟩) ?_
  refine J_iconst (2 : Int32) rfl (show Dc Y_L_law 1418 (.iconst 2) 1 1419 from ⟨by decide +kernel, rfl⟩) ?_
  refine J_iadd (show Dc Y_L_law 1419 (.iadd) 1 1420 from ⟨by decide +kernel, rfl⟩) ?_
  refine J_sald (show Dc Y_L_law 1420 (.iaload) 1 1421 from ⟨by decide +kernel, rfl⟩) (fun v5 => ?_)
  refine J_callVi (fun r => r.1) (fun r => r.2) (show Dc Y_L_law 1421 (.invokevirtual 191) 3 1424 from ⟨by decide +kernel, rfl⟩) w_m_RL_191 w_in_X12_note rfl w_se_X12_note w_cw_X12_note (c_X12_note x2 v4 v5 r3.2) rfl rfl (by decide) (Nat.le_of_ble_eq_true rfl) (by show 615 + x4.toNatClampNeg + 0 + 0 ≤ 601024; omega) (by show 9696 + 2 * x4.toNatClampNeg + 0 + 0 ≤ 7293034; omega) (fun r6 => ?_)
  refine J_icmp_eq (tg := 1673) (show Dc Y_L_law 1424 (.if_icmp .eq 249) 3 1427 from ⟨by decide +kernel, rfl⟩) (by decide) (fun h => ?_) (fun h => ?_)
  · exact J_mono (by show 615 + x4.toNatClampNeg + 0 + 0 ≤ 615 + x4.toNatClampNeg + 1; omega) (by show 9696 + 2 * x4.toNatClampNeg + 0 + 0 ≤ 9696 + 2 * x4.toNatClampNeg + 6; omega) <| j_L_law_1673 hst N x0 x1 x2 x3 x4 r6.2 h0 hL23
  · refine J_map (f := Sum.inr) (fun _ h => h) ?_
    refine J_iconst (0 : Int32) rfl (show Dc Y_L_law 1427 (.iconst 0) 1 1428 from ⟨by decide +kernel, rfl⟩) ?_
    exact J_retz rfl (show Dc Y_L_law 1428 (.ireturn) 1 1429 from ⟨by decide +kernel, rfl⟩) rfl (h0 _ _) (by show 615 + x4.toNatClampNeg + 0 + 0 ≤ 601024; omega) (by show 9696 + 2 * x4.toNatClampNeg + 0 + 0 ≤ 7293034; omega)

theorem j_L_law_1429 {X : ZX} (hst : (xl X).stackTraces = false) (N : Nat) (x0 : Nat) (x1 : Nat) (x2 : Nat) (x3 : Nat) (x4 : Int32)   (g : ZS) {K : ((Int32 × ZS) ⊕ (Int32 × ZS)) → Prop} (h0 : ∀ v g, K (.inr (v, g)) → xK X (some (.int v)) g) (hL23 : ∀ s, K (.inl s) → zG Y_L_law X (615 + s.1.toNatClampNeg) (9696 + 2 * s.1.toNatClampNeg) 23 [some (.ref x0), some (.ref x1), some (.ref x2), some (.ref x3), some (.int s.1), none, none, none] [] s.2) : J Y_L_law X (615 + x4.toNatClampNeg) (9696 + 2 * x4.toNatClampNeg) 1429 [some (.ref x0), some (.ref x1), some (.ref x2), some (.ref x3), some (.int x4), none, none, none] [] g (f_L_law_1429 N x0 x1 x2 x3 x4 g) K := by
  unfold f_L_law_1429
  refine J_cap (fun hi => ?_)
  refine J_aload_n rfl rfl (show Dc Y_L_law 1429 (.aload_n 1) 1 1430 from ⟨by decide +kernel, rfl⟩) ?_
  refine J_callVi (fun r => r.1) (fun r => r.2) (show Dc Y_L_law 1430 (.invokevirtual 192) 3 1433 from ⟨by decide +kernel, rfl⟩) w_m_RL_192 w_in_X11_strike rfl w_se_X11_strike w_cw_X11_strike (c_X11_strike x1 g) rfl rfl (by decide) (Nat.le_of_ble_eq_true rfl) (by show 615 + x4.toNatClampNeg + 0 ≤ 601024; omega) (by show 9696 + 2 * x4.toNatClampNeg + 0 ≤ 7293034; omega) (fun r1 => ?_)
  refine J_aload_n rfl rfl (show Dc Y_L_law 1433 (.aload_n 2) 1 1434 from ⟨by decide +kernel, rfl⟩) ?_
  refine J_callVi (fun r => r.1) (fun r => r.2) (show Dc Y_L_law 1434 (.invokevirtual 195) 3 1437 from ⟨by decide +kernel, rfl⟩) w_m_RL_195 w_in_X12_strike rfl w_se_X12_strike w_cw_X12_strike (c_X12_strike x2 r1.2) rfl rfl (by decide) (Nat.le_of_ble_eq_true rfl) (by show 615 + x4.toNatClampNeg + 0 + 0 ≤ 601024; omega) (by show 9696 + 2 * x4.toNatClampNeg + 0 + 0 ≤ 7293034; omega) (fun r2 => ?_)
  refine J_icmp_eq (tg := 1673) (show Dc Y_L_law 1437 (.if_icmp .eq 236) 3 1440 from ⟨by decide +kernel, rfl⟩) (by decide) (fun h => ?_) (fun h => ?_)
  · exact J_mono (by show 615 + x4.toNatClampNeg + 0 + 0 ≤ 615 + x4.toNatClampNeg + 1; omega) (by show 9696 + 2 * x4.toNatClampNeg + 0 + 0 ≤ 9696 + 2 * x4.toNatClampNeg + 6; omega) <| j_L_law_1673 hst N x0 x1 x2 x3 x4 r2.2 h0 hL23
  · refine J_map (f := Sum.inr) (fun _ h => h) ?_
    refine J_iconst (0 : Int32) rfl (show Dc Y_L_law 1440 (.iconst 0) 1 1441 from ⟨by decide +kernel, rfl⟩) ?_
    exact J_retz rfl (show Dc Y_L_law 1441 (.ireturn) 1 1442 from ⟨by decide +kernel, rfl⟩) rfl (h0 _ _) (by show 615 + x4.toNatClampNeg + 0 + 0 ≤ 601024; omega) (by show 9696 + 2 * x4.toNatClampNeg + 0 + 0 ≤ 7293034; omega)

theorem j_L_law_1442 {X : ZX} (hst : (xl X).stackTraces = false) (N : Nat) (x0 : Nat) (x1 : Nat) (x2 : Nat) (x3 : Nat) (x4 : Int32)   (g : ZS) {K : ((Int32 × ZS) ⊕ (Int32 × ZS)) → Prop} (h0 : ∀ v g, K (.inr (v, g)) → xK X (some (.int v)) g) (hL23 : ∀ s, K (.inl s) → zG Y_L_law X (615 + s.1.toNatClampNeg) (9696 + 2 * s.1.toNatClampNeg) 23 [some (.ref x0), some (.ref x1), some (.ref x2), some (.ref x3), some (.int s.1), none, none, none] [] s.2) : J Y_L_law X (615 + x4.toNatClampNeg) (9696 + 2 * x4.toNatClampNeg) 1442 [some (.ref x0), some (.ref x1), some (.ref x2), some (.ref x3), some (.int x4), none, none, none] [] g (f_L_law_1442 N x0 x1 x2 x3 x4 g) K := by
  unfold f_L_law_1442
  refine J_cap (fun hi => ?_)
  refine J_aload_n rfl rfl (show Dc Y_L_law 1442 (.aload_n 1) 1 1443 from ⟨by decide +kernel, rfl⟩) ?_
  refine J_callVi (fun r => r.1) (fun r => r.2) (show Dc Y_L_law 1443 (.invokevirtual 196) 3 1446 from ⟨by decide +kernel, rfl⟩) w_m_RL_196 w_in_X11_fits rfl w_se_X11_fits w_cw_X11_fits (c_X11_fits N x1 g) rfl rfl (by decide) (Nat.le_of_ble_eq_true rfl) (by show 615 + x4.toNatClampNeg + 0 ≤ 601024; omega) (by show 9696 + 2 * x4.toNatClampNeg + 0 ≤ 7293034; omega) (fun r1 => ?_)
  refine J_aload_n rfl rfl (show Dc Y_L_law 1446 (.aload_n 2) 1 1447 from ⟨by decide +kernel, rfl⟩) ?_
  refine J_callVi (fun r => r.1) (fun r => r.2) (show Dc Y_L_law 1447 (.invokevirtual 199) 3 1450 from ⟨by decide +kernel, rfl⟩) w_m_RL_199 w_in_X12_fits_ rfl w_se_X12_fits_ w_cw_X12_fits_ (c_X12_fits_ N x2 r1.2) rfl rfl (by decide) (Nat.le_of_ble_eq_true rfl) (by show 615 + x4.toNatClampNeg + 0 + 0 ≤ 601024; omega) (by show 9696 + 2 * x4.toNatClampNeg + 0 + 0 ≤ 7293034; omega) (fun r2 => ?_)
  refine J_icmp_eq (tg := 1673) (show Dc Y_L_law 1450 (.if_icmp .eq 223) 3 1453 from ⟨by decide +kernel, rfl⟩) (by decide) (fun h => ?_) (fun h => ?_)
  · exact J_mono (by show 615 + x4.toNatClampNeg + 0 + 0 ≤ 615 + x4.toNatClampNeg + 1; omega) (by show 9696 + 2 * x4.toNatClampNeg + 0 + 0 ≤ 9696 + 2 * x4.toNatClampNeg + 6; omega) <| j_L_law_1673 hst N x0 x1 x2 x3 x4 r2.2 h0 hL23
  · refine J_map (f := Sum.inr) (fun _ h => h) ?_
    refine J_iconst (0 : Int32) rfl (show Dc Y_L_law 1453 (.iconst 0) 1 1454 from ⟨by decide +kernel, rfl⟩) ?_
    exact J_retz rfl (show Dc Y_L_law 1454 (.ireturn) 1 1455 from ⟨by decide +kernel, rfl⟩) rfl (h0 _ _) (by show 615 + x4.toNatClampNeg + 0 + 0 ≤ 601024; omega) (by show 9696 + 2 * x4.toNatClampNeg + 0 + 0 ≤ 7293034; omega)

theorem j_L_law_1455 {X : ZX} (hst : (xl X).stackTraces = false) (N : Nat) (x0 : Nat) (x1 : Nat) (x2 : Nat) (x3 : Nat) (x4 : Int32)   (g : ZS) {K : ((Int32 × ZS) ⊕ (Int32 × ZS)) → Prop} (h0 : ∀ v g, K (.inr (v, g)) → xK X (some (.int v)) g) (hL23 : ∀ s, K (.inl s) → zG Y_L_law X (615 + s.1.toNatClampNeg) (9696 + 2 * s.1.toNatClampNeg) 23 [some (.ref x0), some (.ref x1), some (.ref x2), some (.ref x3), some (.int s.1), none, none, none] [] s.2) : J Y_L_law X (615 + x4.toNatClampNeg) (9696 + 2 * x4.toNatClampNeg) 1455 [some (.ref x0), some (.ref x1), some (.ref x2), some (.ref x3), some (.int x4), none, none, none] [] g (f_L_law_1455 N x0 x1 x2 x3 x4 g) K := by
  unfold f_L_law_1455
  refine J_cap (fun hi => ?_)
  refine J_aload_n rfl rfl (show Dc Y_L_law 1455 (.aload_n 1) 1 1456 from ⟨by decide +kernel, rfl⟩) ?_
  refine J_callVi (fun r => r.1) (fun r => r.2) (show Dc Y_L_law 1456 (.invokevirtual 200) 3 1459 from ⟨by decide +kernel, rfl⟩) w_m_RL_200 w_in_X11_ask rfl w_se_X11_ask w_cw_X11_ask (c_X11_ask N x1 g) rfl rfl (by decide) (Nat.le_of_ble_eq_true rfl) (by show 615 + x4.toNatClampNeg + 0 ≤ 601024; omega) (by show 9696 + 2 * x4.toNatClampNeg + 0 ≤ 7293034; omega) (fun r1 => ?_)
  refine J_aload_n rfl rfl (show Dc Y_L_law 1459 (.aload_n 2) 1 1460 from ⟨by decide +kernel, rfl⟩) ?_
  refine J_callVi (fun r => r.1) (fun r => r.2) (show Dc Y_L_law 1460 (.invokevirtual 203) 3 1463 from ⟨by decide +kernel, rfl⟩) w_m_RL_203 w_in_X12_ask rfl w_se_X12_ask w_cw_X12_ask (c_X12_ask N x2 r1.2) rfl rfl (by decide) (Nat.le_of_ble_eq_true rfl) (by show 615 + x4.toNatClampNeg + 0 + 0 ≤ 601024; omega) (by show 9696 + 2 * x4.toNatClampNeg + 0 + 0 ≤ 7293034; omega) (fun r2 => ?_)
  refine J_icmp_eq (tg := 1673) (show Dc Y_L_law 1463 (.if_icmp .eq 210) 3 1466 from ⟨by decide +kernel, rfl⟩) (by decide) (fun h => ?_) (fun h => ?_)
  · exact J_mono (by show 615 + x4.toNatClampNeg + 0 + 0 ≤ 615 + x4.toNatClampNeg + 1; omega) (by show 9696 + 2 * x4.toNatClampNeg + 0 + 0 ≤ 9696 + 2 * x4.toNatClampNeg + 6; omega) <| j_L_law_1673 hst N x0 x1 x2 x3 x4 r2.2 h0 hL23
  · refine J_map (f := Sum.inr) (fun _ h => h) ?_
    refine J_iconst (0 : Int32) rfl (show Dc Y_L_law 1466 (.iconst 0) 1 1467 from ⟨by decide +kernel, rfl⟩) ?_
    exact J_retz rfl (show Dc Y_L_law 1467 (.ireturn) 1 1468 from ⟨by decide +kernel, rfl⟩) rfl (h0 _ _) (by show 615 + x4.toNatClampNeg + 0 + 0 ≤ 601024; omega) (by show 9696 + 2 * x4.toNatClampNeg + 0 + 0 ≤ 7293034; omega)

theorem j_L_law_1468 {X : ZX} (hst : (xl X).stackTraces = false) (N : Nat) (x0 : Nat) (x1 : Nat) (x2 : Nat) (x3 : Nat) (x4 : Int32)   (g : ZS) {K : ((Int32 × ZS) ⊕ (Int32 × ZS)) → Prop} (h0 : ∀ v g, K (.inr (v, g)) → xK X (some (.int v)) g) (hL23 : ∀ s, K (.inl s) → zG Y_L_law X (615 + s.1.toNatClampNeg) (9696 + 2 * s.1.toNatClampNeg) 23 [some (.ref x0), some (.ref x1), some (.ref x2), some (.ref x3), some (.int s.1), none, none, none] [] s.2) : J Y_L_law X (615 + x4.toNatClampNeg) (9696 + 2 * x4.toNatClampNeg) 1468 [some (.ref x0), some (.ref x1), some (.ref x2), some (.ref x3), some (.int x4), none, none, none] [] g (f_L_law_1468 N x0 x1 x2 x3 x4 g) K := by
  unfold f_L_law_1468
  refine J_cap (fun hi => ?_)
  refine J_aload_n rfl rfl (show Dc Y_L_law 1468 (.aload_n 1) 1 1469 from ⟨by decide +kernel, rfl⟩) ?_
  refine J_aload_n rfl rfl (show Dc Y_L_law 1469 (.aload_n 0) 1 1470 from ⟨by decide +kernel, rfl⟩) ?_
  refine J_iload rfl (show Dc Y_L_law 1470 (.iload 4) 2 1472 from ⟨by decide +kernel, rfl⟩) ?_
  refine J_iconst (1 : Int32) rfl (show Dc Y_L_law 1472 (.iconst 1) 1 1473 from ⟨by decide +kernel, rfl⟩) ?_
  refine J_iadd (show Dc Y_L_law 1473 (.iadd) 1 1474 from ⟨by decide +kernel, rfl⟩) ?_
  refine J_sald (show Dc Y_L_law 1474 (.iaload) 1 1475 from ⟨by decide +kernel, rfl⟩) (fun v1 => ?_)
  refine J_callVi (fun r => r.1) (fun r => r.2) (show Dc Y_L_law 1475 (.invokevirtual 204) 3 1478 from ⟨by decide +kernel, rfl⟩) w_m_RL_204 w_in_X11_rests rfl w_se_X11_rests w_cw_X11_rests (c_X11_rests N x1 v1 g) rfl rfl (by decide) (Nat.le_of_ble_eq_true rfl) (by show 615 + x4.toNatClampNeg + 0 ≤ 601024; omega) (by show 9696 + 2 * x4.toNatClampNeg + 0 ≤ 7293034; omega) (fun r2 => ?_)
  refine J_aload_n rfl rfl (show Dc Y_L_law 1478 (.aload_n 2) 1 1479 from ⟨by decide +kernel, rfl⟩) ?_
  refine J_aload_n rfl rfl (show Dc Y_L_law 1479 (.aload_n 0) 1 1480 from ⟨by decide +kernel, rfl⟩) ?_
  refine J_iload rfl (show Dc Y_L_law 1480 (.iload 4) 2 1482 from ⟨by decide +kernel, rfl⟩) ?_
  refine J_iconst (1 : Int32) rfl (show Dc Y_L_law 1482 (.iconst 1) 1 1483 from ⟨by decide +kernel, rfl⟩) ?_
  refine J_iadd (show Dc Y_L_law 1483 (.iadd) 1 1484 from ⟨by decide +kernel, rfl⟩) ?_
  refine J_sald (show Dc Y_L_law 1484 (.iaload) 1 1485 from ⟨by decide +kernel, rfl⟩) (fun v3 => ?_)
  refine J_callVi (fun r => r.1) (fun r => r.2) (show Dc Y_L_law 1485 (.invokevirtual 207) 3 1488 from ⟨by decide +kernel, rfl⟩) w_m_RL_207 w_in_X12_rests rfl w_se_X12_rests w_cw_X12_rests (c_X12_rests N x2 v3 r2.2) rfl rfl (by decide) (Nat.le_of_ble_eq_true rfl) (by show 615 + x4.toNatClampNeg + 0 + 0 ≤ 601024; omega) (by show 9696 + 2 * x4.toNatClampNeg + 0 + 0 ≤ 7293034; omega) (fun r4 => ?_)
  refine J_icmp_eq (tg := 1673) (show Dc Y_L_law 1488 (.if_icmp .eq 185) 3 1491 from ⟨by decide +kernel, rfl⟩) (by decide) (fun h => ?_) (fun h => ?_)
  · exact J_mono (by show 615 + x4.toNatClampNeg + 0 + 0 ≤ 615 + x4.toNatClampNeg + 1; omega) (by show 9696 + 2 * x4.toNatClampNeg + 0 + 0 ≤ 9696 + 2 * x4.toNatClampNeg + 6; omega) <| j_L_law_1673 hst N x0 x1 x2 x3 x4 r4.2 h0 hL23
  · refine J_map (f := Sum.inr) (fun _ h => h) ?_
    refine J_iconst (0 : Int32) rfl (show Dc Y_L_law 1491 (.iconst 0) 1 1492 from ⟨by decide +kernel, rfl⟩) ?_
    exact J_retz rfl (show Dc Y_L_law 1492 (.ireturn) 1 1493 from ⟨by decide +kernel, rfl⟩) rfl (h0 _ _) (by show 615 + x4.toNatClampNeg + 0 + 0 ≤ 601024; omega) (by show 9696 + 2 * x4.toNatClampNeg + 0 + 0 ≤ 7293034; omega)

theorem j_L_law_1493 {X : ZX} (hst : (xl X).stackTraces = false) (N : Nat) (x0 : Nat) (x1 : Nat) (x2 : Nat) (x3 : Nat) (x4 : Int32)   (g : ZS) {K : ((Int32 × ZS) ⊕ (Int32 × ZS)) → Prop} (h0 : ∀ v g, K (.inr (v, g)) → xK X (some (.int v)) g) (hL23 : ∀ s, K (.inl s) → zG Y_L_law X (615 + s.1.toNatClampNeg) (9696 + 2 * s.1.toNatClampNeg) 23 [some (.ref x0), some (.ref x1), some (.ref x2), some (.ref x3), some (.int s.1), none, none, none] [] s.2) : J Y_L_law X (615 + x4.toNatClampNeg) (9696 + 2 * x4.toNatClampNeg) 1493 [some (.ref x0), some (.ref x1), some (.ref x2), some (.ref x3), some (.int x4), none, none, none] [] g (f_L_law_1493 N x0 x1 x2 x3 x4 g) K := by
  unfold f_L_law_1493
  refine J_cap (fun hi => ?_)
  refine J_aload_n rfl rfl (show Dc Y_L_law 1493 (.aload_n 1) 1 1494 from ⟨by decide +kernel, rfl⟩) ?_
  refine J_callVi (fun r => r.1) (fun r => r.2) (show Dc Y_L_law 1494 (.invokevirtual 208) 3 1497 from ⟨by decide +kernel, rfl⟩) w_m_RL_208 w_in_X11_law rfl w_se_X11_law w_cw_X11_law (c_X11_law N x1 g) rfl rfl (by decide) (Nat.le_of_ble_eq_true rfl) (by show 615 + x4.toNatClampNeg + 0 ≤ 601024; omega) (by show 9696 + 2 * x4.toNatClampNeg + 0 ≤ 7293034; omega) (fun r1 => ?_)
  refine J_aload_n rfl rfl (show Dc Y_L_law 1497 (.aload_n 2) 1 1498 from ⟨by decide +kernel, rfl⟩) ?_
  refine J_callVi (fun r => r.1) (fun r => r.2) (show Dc Y_L_law 1498 (.invokevirtual 211) 3 1501 from ⟨by decide +kernel, rfl⟩) w_m_RL_211 w_in_X12_law rfl w_se_X12_law w_cw_X12_law (c_X12_law N x2 r1.2) rfl rfl (by decide) (Nat.le_of_ble_eq_true rfl) (by show 615 + x4.toNatClampNeg + 0 + 0 ≤ 601024; omega) (by show 9696 + 2 * x4.toNatClampNeg + 0 + 0 ≤ 7293034; omega) (fun r2 => ?_)
  refine J_icmp_eq (tg := 1673) (show Dc Y_L_law 1501 (.if_icmp .eq 172) 3 1504 from ⟨by decide +kernel, rfl⟩) (by decide) (fun h => ?_) (fun h => ?_)
  · exact J_mono (by show 615 + x4.toNatClampNeg + 0 + 0 ≤ 615 + x4.toNatClampNeg + 1; omega) (by show 9696 + 2 * x4.toNatClampNeg + 0 + 0 ≤ 9696 + 2 * x4.toNatClampNeg + 6; omega) <| j_L_law_1673 hst N x0 x1 x2 x3 x4 r2.2 h0 hL23
  · refine J_map (f := Sum.inr) (fun _ h => h) ?_
    refine J_iconst (0 : Int32) rfl (show Dc Y_L_law 1504 (.iconst 0) 1 1505 from ⟨by decide +kernel, rfl⟩) ?_
    exact J_retz rfl (show Dc Y_L_law 1505 (.ireturn) 1 1506 from ⟨by decide +kernel, rfl⟩) rfl (h0 _ _) (by show 615 + x4.toNatClampNeg + 0 + 0 ≤ 601024; omega) (by show 9696 + 2 * x4.toNatClampNeg + 0 + 0 ≤ 7293034; omega)

theorem j_L_law_1506 {X : ZX} (hst : (xl X).stackTraces = false) (N : Nat) (x0 : Nat) (x1 : Nat) (x2 : Nat) (x3 : Nat) (x4 : Int32)   (g : ZS) {K : ((Int32 × ZS) ⊕ (Int32 × ZS)) → Prop} (h0 : ∀ v g, K (.inr (v, g)) → xK X (some (.int v)) g) (hL23 : ∀ s, K (.inl s) → zG Y_L_law X (615 + s.1.toNatClampNeg) (9696 + 2 * s.1.toNatClampNeg) 23 [some (.ref x0), some (.ref x1), some (.ref x2), some (.ref x3), some (.int s.1), none, none, none] [] s.2) : J Y_L_law X (615 + x4.toNatClampNeg) (9696 + 2 * x4.toNatClampNeg) 1506 [some (.ref x0), some (.ref x1), some (.ref x2), some (.ref x3), some (.int x4), none, none, none] [] g (f_L_law_1506 N x0 x1 x2 x3 x4 g) K := by
  unfold f_L_law_1506
  refine J_cap (fun hi => ?_)
  refine J_aload_n rfl rfl (show Dc Y_L_law 1506 (.aload_n 1) 1 1507 from ⟨by decide +kernel, rfl⟩) ?_
  refine J_aload_n rfl rfl (show Dc Y_L_law 1507 (.aload_n 0) 1 1508 from ⟨by decide +kernel, rfl⟩) ?_
  refine J_iload rfl (show Dc Y_L_law 1508 (.iload 4) 2 1510 from ⟨by decide +kernel, rfl⟩) ?_
  refine J_iconst (1 : Int32) rfl (show Dc Y_L_law 1510 (.iconst 1) 1 1511 from ⟨by decide +kernel, rfl⟩) ?_
  refine J_iadd (show Dc Y_L_law 1511 (.iadd) 1 1512 from ⟨by decide +kernel, rfl⟩) ?_
  refine J_sald (show Dc Y_L_law 1512 (.iaload) 1 1513 from ⟨by decide +kernel, rfl⟩) (fun v1 => ?_)
  refine J_aload_n rfl rfl (show Dc Y_L_law 1513 (.aload_n 0) 1 1514 from ⟨by decide +kernel, rfl⟩) ?_
  refine J_iload rfl (show Dc Y_L_law 1514 (.iload 4) 2 1516 from ⟨by decide +kernel, rfl⟩) ?_
  refine J_iconst (2 : Int32) rfl (show Dc Y_L_law 1516 (.iconst 2) 1 1517 from ⟨by decide +kernel, rfl⟩) ?_
  refine J_iadd (show Dc Y_L_law 1517 (.iadd) 1 1518 from ⟨by decide +kernel, rfl⟩) ?_
  refine J_sald (show Dc Y_L_law 1518 (.iaload) 1 1519 from ⟨by decide +kernel, rfl⟩) (fun v2 => ?_)
  refine J_callVi (fun r => r.1) (fun r => r.2) (show Dc Y_L_law 1519 (.invokevirtual 212) 3 1522 from ⟨by decide +kernel, rfl⟩) w_m_RL_212 w_in_X11_years rfl w_se_X11_years w_cw_X11_years (c_X11_years N x1 v1 v2 g) rfl rfl (by decide) (Nat.le_of_ble_eq_true rfl) (by show 615 + x4.toNatClampNeg + 1 ≤ 601024; omega) (by show 9696 + 2 * x4.toNatClampNeg + 1 ≤ 7293034; omega) (fun r3 => ?_)
  refine J_aload_n rfl rfl (show Dc Y_L_law 1522 (.aload_n 2) 1 1523 from ⟨by decide +kernel, rfl⟩) ?_
  refine J_aload_n rfl rfl (show Dc Y_L_law 1523 (.aload_n 0) 1 1524 from ⟨by decide +kernel, rfl⟩) ?_
  refine J_iload rfl (show Dc Y_L_law 1524 (.iload 4) 2 1526 from ⟨by decide +kernel, rfl⟩) ?_
  refine J_iconst (1 : Int32) rfl (show Dc Y_L_law 1526 (.iconst 1) 1 1527 from ⟨by decide +kernel, rfl⟩) ?_
  refine J_iadd (show Dc Y_L_law 1527 (.iadd) 1 1528 from ⟨by decide +kernel, rfl⟩) ?_
  refine J_sald (show Dc Y_L_law 1528 (.iaload) 1 1529 from ⟨by decide +kernel, rfl⟩) (fun v4 => ?_)
  refine J_aload_n rfl rfl (show Dc Y_L_law 1529 (.aload_n 0) 1 1530 from ⟨by decide +kernel, rfl⟩) ?_
  refine J_iload rfl (show Dc Y_L_law 1530 (.iload 4) 2 1532 from ⟨by decide +kernel, rfl⟩) ?_
  refine J_iconst (2 : Int32) rfl (show Dc Y_L_law 1532 (.iconst 2) 1 1533 from ⟨by decide +kernel, rfl⟩) ?_
  refine J_iadd (show Dc Y_L_law 1533 (.iadd) 1 1534 from ⟨by decide +kernel, rfl⟩) ?_
  refine J_sald (show Dc Y_L_law 1534 (.iaload) 1 1535 from ⟨by decide +kernel, rfl⟩) (fun v5 => ?_)
  refine J_callVi (fun r => r.1) (fun r => r.2) (show Dc Y_L_law 1535 (.invokevirtual 215) 3 1538 from ⟨by decide +kernel, rfl⟩) w_m_RL_215 w_in_X12_years rfl w_se_X12_years w_cw_X12_years (c_X12_years N x2 v4 v5 r3.2) rfl rfl (by decide) (Nat.le_of_ble_eq_true rfl) (by show 615 + x4.toNatClampNeg + 1 + 0 ≤ 601024; omega) (by show 9696 + 2 * x4.toNatClampNeg + 1 + 0 ≤ 7293034; omega) (fun r6 => ?_)
  refine J_icmp_eq (tg := 1673) (show Dc Y_L_law 1538 (.if_icmp .eq 135) 3 1541 from ⟨by decide +kernel, rfl⟩) (by decide) (fun h => ?_) (fun h => ?_)
  · exact J_mono (by show 615 + x4.toNatClampNeg + 1 + 0 ≤ 615 + x4.toNatClampNeg + 1; omega) (by show 9696 + 2 * x4.toNatClampNeg + 1 + 0 ≤ 9696 + 2 * x4.toNatClampNeg + 6; omega) <| j_L_law_1673 hst N x0 x1 x2 x3 x4 r6.2 h0 hL23
  · refine J_map (f := Sum.inr) (fun _ h => h) ?_
    refine J_iconst (0 : Int32) rfl (show Dc Y_L_law 1541 (.iconst 0) 1 1542 from ⟨by decide +kernel, rfl⟩) ?_
    exact J_retz rfl (show Dc Y_L_law 1542 (.ireturn) 1 1543 from ⟨by decide +kernel, rfl⟩) rfl (h0 _ _) (by show 615 + x4.toNatClampNeg + 1 + 0 ≤ 601024; omega) (by show 9696 + 2 * x4.toNatClampNeg + 1 + 0 ≤ 7293034; omega)

theorem j_L_law_1543 {X : ZX} (hst : (xl X).stackTraces = false) (N : Nat) (x0 : Nat) (x1 : Nat) (x2 : Nat) (x3 : Nat) (x4 : Int32)   (g : ZS) {K : ((Int32 × ZS) ⊕ (Int32 × ZS)) → Prop} (h0 : ∀ v g, K (.inr (v, g)) → xK X (some (.int v)) g) (hL23 : ∀ s, K (.inl s) → zG Y_L_law X (615 + s.1.toNatClampNeg) (9696 + 2 * s.1.toNatClampNeg) 23 [some (.ref x0), some (.ref x1), some (.ref x2), some (.ref x3), some (.int s.1), none, none, none] [] s.2) : J Y_L_law X (615 + x4.toNatClampNeg) (9696 + 2 * x4.toNatClampNeg) 1543 [some (.ref x0), some (.ref x1), some (.ref x2), some (.ref x3), some (.int x4), none, none, none] [] g (f_L_law_1543 N x0 x1 x2 x3 x4 g) K := by
  unfold f_L_law_1543
  refine J_cap (fun hi => ?_)
  refine J_aload_n rfl rfl (show Dc Y_L_law 1543 (.aload_n 1) 1 1544 from ⟨by decide +kernel, rfl⟩) ?_
  refine J_aload_n rfl rfl (show Dc Y_L_law 1544 (.aload_n 0) 1 1545 from ⟨by decide +kernel, rfl⟩) ?_
  refine J_iload rfl (show Dc Y_L_law 1545 (.iload 4) 2 1547 from ⟨by decide +kernel, rfl⟩) ?_
  refine J_iconst (1 : Int32) rfl (show Dc Y_L_law 1547 (.iconst 1) 1 1548 from ⟨by decide +kernel, rfl⟩) ?_
  refine J_iadd (show Dc Y_L_law 1548 (.iadd) 1 1549 from ⟨by decide +kernel, rfl⟩) ?_
  refine J_sald (show Dc Y_L_law 1549 (.iaload) 1 1550 from ⟨by decide +kernel, rfl⟩) (fun v1 => ?_)
  refine J_callVi (fun r => r.1) (fun r => r.2) (show Dc Y_L_law 1550 (.invokevirtual 216) 3 1553 from ⟨by decide +kernel, rfl⟩) w_m_RL_216 w_in_X11_keep rfl w_se_X11_keep w_cw_X11_keep (c_X11_keep N x1 v1 g) rfl rfl (by decide) (Nat.le_of_ble_eq_true rfl) (by show 615 + x4.toNatClampNeg + 0 ≤ 601024; omega) (by show 9696 + 2 * x4.toNatClampNeg + 0 ≤ 7293034; omega) (fun r2 => ?_)
  refine J_aload_n rfl rfl (show Dc Y_L_law 1553 (.aload_n 2) 1 1554 from ⟨by decide +kernel, rfl⟩) ?_
  refine J_aload_n rfl rfl (show Dc Y_L_law 1554 (.aload_n 0) 1 1555 from ⟨by decide +kernel, rfl⟩) ?_
  refine J_iload rfl (show Dc Y_L_law 1555 (.iload 4) 2 1557 from ⟨by decide +kernel, rfl⟩) ?_
  refine J_iconst (1 : Int32) rfl (show Dc Y_L_law 1557 (.iconst 1) 1 1558 from ⟨by decide +kernel, rfl⟩) ?_
  refine J_iadd (show Dc Y_L_law 1558 (.iadd) 1 1559 from ⟨by decide +kernel, rfl⟩) ?_
  refine J_sald (show Dc Y_L_law 1559 (.iaload) 1 1560 from ⟨by decide +kernel, rfl⟩) (fun v3 => ?_)
  refine J_callVi (fun r => r.1) (fun r => r.2) (show Dc Y_L_law 1560 (.invokevirtual 219) 3 1563 from ⟨by decide +kernel, rfl⟩) w_m_RL_219 w_in_X12_keep rfl w_se_X12_keep w_cw_X12_keep (c_X12_keep N x2 v3 r2.2) rfl rfl (by decide) (Nat.le_of_ble_eq_true rfl) (by show 615 + x4.toNatClampNeg + 0 + 0 ≤ 601024; omega) (by show 9696 + 2 * x4.toNatClampNeg + 0 + 0 ≤ 7293034; omega) (fun r4 => ?_)
  refine J_icmp_eq (tg := 1673) (show Dc Y_L_law 1563 (.if_icmp .eq 110) 3 1566 from ⟨by decide +kernel, rfl⟩) (by decide) (fun h => ?_) (fun h => ?_)
  · exact J_mono (by show 615 + x4.toNatClampNeg + 0 + 0 ≤ 615 + x4.toNatClampNeg + 1; omega) (by show 9696 + 2 * x4.toNatClampNeg + 0 + 0 ≤ 9696 + 2 * x4.toNatClampNeg + 6; omega) <| j_L_law_1673 hst N x0 x1 x2 x3 x4 r4.2 h0 hL23
  · refine J_map (f := Sum.inr) (fun _ h => h) ?_
    refine J_iconst (0 : Int32) rfl (show Dc Y_L_law 1566 (.iconst 0) 1 1567 from ⟨by decide +kernel, rfl⟩) ?_
    exact J_retz rfl (show Dc Y_L_law 1567 (.ireturn) 1 1568 from ⟨by decide +kernel, rfl⟩) rfl (h0 _ _) (by show 615 + x4.toNatClampNeg + 0 + 0 ≤ 601024; omega) (by show 9696 + 2 * x4.toNatClampNeg + 0 + 0 ≤ 7293034; omega)

theorem j_L_law_1568 {X : ZX} (hst : (xl X).stackTraces = false) (N : Nat) (x0 : Nat) (x1 : Nat) (x2 : Nat) (x3 : Nat) (x4 : Int32)   (g : ZS) {K : ((Int32 × ZS) ⊕ (Int32 × ZS)) → Prop} (h0 : ∀ v g, K (.inr (v, g)) → xK X (some (.int v)) g) (hL23 : ∀ s, K (.inl s) → zG Y_L_law X (615 + s.1.toNatClampNeg) (9696 + 2 * s.1.toNatClampNeg) 23 [some (.ref x0), some (.ref x1), some (.ref x2), some (.ref x3), some (.int s.1), none, none, none] [] s.2) : J Y_L_law X (615 + x4.toNatClampNeg) (9696 + 2 * x4.toNatClampNeg) 1568 [some (.ref x0), some (.ref x1), some (.ref x2), some (.ref x3), some (.int x4), none, none, none] [] g (f_L_law_1568 N x0 x1 x2 x3 x4 g) K := by
  unfold f_L_law_1568
  refine J_cap (fun hi => ?_)
  refine J_aload_n rfl rfl (show Dc Y_L_law 1568 (.aload_n 1) 1 1569 from ⟨by decide +kernel, rfl⟩) ?_
  refine J_aload_n rfl rfl (show Dc Y_L_law 1569 (.aload_n 0) 1 1570 from ⟨by decide +kernel, rfl⟩) ?_
  refine J_iload rfl (show Dc Y_L_law 1570 (.iload 4) 2 1572 from ⟨by decide +kernel, rfl⟩) ?_
  refine J_iconst (1 : Int32) rfl (show Dc Y_L_law 1572 (.iconst 1) 1 1573 from ⟨by decide +kernel, rfl⟩) ?_
  refine J_iadd (show Dc Y_L_law 1573 (.iadd) 1 1574 from ⟨by decide +kernel, rfl⟩) ?_
  refine J_sald (show Dc Y_L_law 1574 (.iaload) 1 1575 from ⟨by decide +kernel, rfl⟩) (fun v1 => ?_)
  refine J_callVi (fun r => r.1) (fun r => r.2) (show Dc Y_L_law 1575 (.invokevirtual 220) 3 1578 from ⟨by decide +kernel, rfl⟩) w_m_RL_220 w_in_X11_again rfl w_se_X11_again w_cw_X11_again (c_X11_again N x1 v1 g) rfl rfl (by decide) (Nat.le_of_ble_eq_true rfl) (by show 615 + x4.toNatClampNeg + 0 ≤ 601024; omega) (by show 9696 + 2 * x4.toNatClampNeg + 0 ≤ 7293034; omega) (fun r2 => ?_)
  refine J_aload_n rfl rfl (show Dc Y_L_law 1578 (.aload_n 2) 1 1579 from ⟨by decide +kernel, rfl⟩) ?_
  refine J_aload_n rfl rfl (show Dc Y_L_law 1579 (.aload_n 0) 1 1580 from ⟨by decide +kernel, rfl⟩) ?_
  refine J_iload rfl (show Dc Y_L_law 1580 (.iload 4) 2 1582 from ⟨by decide +kernel, rfl⟩) ?_
  refine J_iconst (1 : Int32) rfl (show Dc Y_L_law 1582 (.iconst 1) 1 1583 from ⟨by decide +kernel, rfl⟩) ?_
  refine J_iadd (show Dc Y_L_law 1583 (.iadd) 1 1584 from ⟨by decide +kernel, rfl⟩) ?_
  refine J_sald (show Dc Y_L_law 1584 (.iaload) 1 1585 from ⟨by decide +kernel, rfl⟩) (fun v3 => ?_)
  refine J_callVi (fun r => r.1) (fun r => r.2) (show Dc Y_L_law 1585 (.invokevirtual 223) 3 1588 from ⟨by decide +kernel, rfl⟩) w_m_RL_223 w_in_X12_again rfl w_se_X12_again w_cw_X12_again (c_X12_again N x2 v3 r2.2) rfl rfl (by decide) (Nat.le_of_ble_eq_true rfl) (by show 615 + x4.toNatClampNeg + 0 + 0 ≤ 601024; omega) (by show 9696 + 2 * x4.toNatClampNeg + 0 + 0 ≤ 7293034; omega) (fun r4 => ?_)
  refine J_icmp_eq (tg := 1673) (show Dc Y_L_law 1588 (.if_icmp .eq 85) 3 1591 from ⟨by decide +kernel, rfl⟩) (by decide) (fun h => ?_) (fun h => ?_)
  · exact J_mono (by show 615 + x4.toNatClampNeg + 0 + 0 ≤ 615 + x4.toNatClampNeg + 1; omega) (by show 9696 + 2 * x4.toNatClampNeg + 0 + 0 ≤ 9696 + 2 * x4.toNatClampNeg + 6; omega) <| j_L_law_1673 hst N x0 x1 x2 x3 x4 r4.2 h0 hL23
  · refine J_map (f := Sum.inr) (fun _ h => h) ?_
    refine J_iconst (0 : Int32) rfl (show Dc Y_L_law 1591 (.iconst 0) 1 1592 from ⟨by decide +kernel, rfl⟩) ?_
    exact J_retz rfl (show Dc Y_L_law 1592 (.ireturn) 1 1593 from ⟨by decide +kernel, rfl⟩) rfl (h0 _ _) (by show 615 + x4.toNatClampNeg + 0 + 0 ≤ 601024; omega) (by show 9696 + 2 * x4.toNatClampNeg + 0 + 0 ≤ 7293034; omega)

theorem j_L_law_1593 {X : ZX} (hst : (xl X).stackTraces = false) (N : Nat) (x0 : Nat) (x1 : Nat) (x2 : Nat) (x3 : Nat) (x4 : Int32)   (g : ZS) {K : ((Int32 × ZS) ⊕ (Int32 × ZS)) → Prop} (h0 : ∀ v g, K (.inr (v, g)) → xK X (some (.int v)) g) (hL23 : ∀ s, K (.inl s) → zG Y_L_law X (615 + s.1.toNatClampNeg) (9696 + 2 * s.1.toNatClampNeg) 23 [some (.ref x0), some (.ref x1), some (.ref x2), some (.ref x3), some (.int s.1), none, none, none] [] s.2) : J Y_L_law X (615 + x4.toNatClampNeg) (9696 + 2 * x4.toNatClampNeg) 1593 [some (.ref x0), some (.ref x1), some (.ref x2), some (.ref x3), some (.int x4), none, none, none] [] g (f_L_law_1593 N x0 x1 x2 x3 x4 g) K := by
  unfold f_L_law_1593
  refine J_cap (fun hi => ?_)
  refine J_aload_n rfl rfl (show Dc Y_L_law 1593 (.aload_n 1) 1 1594 from ⟨by decide +kernel, rfl⟩) ?_
  refine J_aload_n rfl rfl (show Dc Y_L_law 1594 (.aload_n 0) 1 1595 from ⟨by decide +kernel, rfl⟩) ?_
  refine J_iload rfl (show Dc Y_L_law 1595 (.iload 4) 2 1597 from ⟨by decide +kernel, rfl⟩) ?_
  refine J_iconst (1 : Int32) rfl (show Dc Y_L_law 1597 (.iconst 1) 1 1598 from ⟨by decide +kernel, rfl⟩) ?_
  refine J_iadd (show Dc Y_L_law 1598 (.iadd) 1 1599 from ⟨by decide +kernel, rfl⟩) ?_
  refine J_sald (show Dc Y_L_law 1599 (.iaload) 1 1600 from ⟨by decide +kernel, rfl⟩) (fun v1 => ?_)
  refine J_callVi (fun r => r) (fun _ => g) (show Dc Y_L_law 1600 (.invokevirtual 224) 3 1603 from ⟨by decide +kernel, rfl⟩) w_m_RL_224 w_in_X11_count rfl w_se_X11_count w_cw_X11_count (c_X11_count N x1 v1 g) rfl rfl (by decide) (Nat.le_of_ble_eq_true rfl) (by show 615 + x4.toNatClampNeg + 0 ≤ 601024; omega) (by show 9696 + 2 * x4.toNatClampNeg + 0 ≤ 7293034; omega) (fun v2 => ?_)
  refine J_aload_n rfl rfl (show Dc Y_L_law 1603 (.aload_n 2) 1 1604 from ⟨by decide +kernel, rfl⟩) ?_
  refine J_aload_n rfl rfl (show Dc Y_L_law 1604 (.aload_n 0) 1 1605 from ⟨by decide +kernel, rfl⟩) ?_
  refine J_iload rfl (show Dc Y_L_law 1605 (.iload 4) 2 1607 from ⟨by decide +kernel, rfl⟩) ?_
  refine J_iconst (1 : Int32) rfl (show Dc Y_L_law 1607 (.iconst 1) 1 1608 from ⟨by decide +kernel, rfl⟩) ?_
  refine J_iadd (show Dc Y_L_law 1608 (.iadd) 1 1609 from ⟨by decide +kernel, rfl⟩) ?_
  refine J_sald (show Dc Y_L_law 1609 (.iaload) 1 1610 from ⟨by decide +kernel, rfl⟩) (fun v3 => ?_)
  refine J_callVi (fun r => r.1) (fun r => r.2) (show Dc Y_L_law 1610 (.invokevirtual 227) 3 1613 from ⟨by decide +kernel, rfl⟩) w_m_RL_227 w_in_X12_count rfl w_se_X12_count w_cw_X12_count (c_X12_count N x2 v3 g) rfl rfl (by decide) (Nat.le_of_ble_eq_true rfl) (by show 615 + x4.toNatClampNeg + 0 + 0 ≤ 601024; omega) (by show 9696 + 2 * x4.toNatClampNeg + 0 + 0 ≤ 7293034; omega) (fun r4 => ?_)
  refine J_icmp_eq (tg := 1673) (show Dc Y_L_law 1613 (.if_icmp .eq 60) 3 1616 from ⟨by decide +kernel, rfl⟩) (by decide) (fun h => ?_) (fun h => ?_)
  · exact J_mono (by show 615 + x4.toNatClampNeg + 0 + 0 ≤ 615 + x4.toNatClampNeg + 1; omega) (by show 9696 + 2 * x4.toNatClampNeg + 0 + 0 ≤ 9696 + 2 * x4.toNatClampNeg + 6; omega) <| j_L_law_1673 hst N x0 x1 x2 x3 x4 r4.2 h0 hL23
  · refine J_map (f := Sum.inr) (fun _ h => h) ?_
    refine J_iconst (0 : Int32) rfl (show Dc Y_L_law 1616 (.iconst 0) 1 1617 from ⟨by decide +kernel, rfl⟩) ?_
    exact J_retz rfl (show Dc Y_L_law 1617 (.ireturn) 1 1618 from ⟨by decide +kernel, rfl⟩) rfl (h0 _ _) (by show 615 + x4.toNatClampNeg + 0 + 0 ≤ 601024; omega) (by show 9696 + 2 * x4.toNatClampNeg + 0 + 0 ≤ 7293034; omega)

theorem j_L_law_1670 {X : ZX} (hst : (xl X).stackTraces = false) (N : Nat) (x0 : Nat) (x1 : Nat) (x2 : Nat) (x3 : Nat) (x4 : Int32)   (g : ZS) {K : ((Int32 × ZS) ⊕ (Int32 × ZS)) → Prop} (h0 : ∀ v g, K (.inr (v, g)) → xK X (some (.int v)) g) (hL23 : ∀ s, K (.inl s) → zG Y_L_law X (615 + s.1.toNatClampNeg) (9696 + 2 * s.1.toNatClampNeg) 23 [some (.ref x0), some (.ref x1), some (.ref x2), some (.ref x3), some (.int s.1), none, none, none] [] s.2) : J Y_L_law X (615 + x4.toNatClampNeg + 1) (9696 + 2 * x4.toNatClampNeg + 6) 1670 [some (.ref x0), some (.ref x1), some (.ref x2), some (.ref x3), some (.int x4), none, none, none] [] g (f_L_law_1670 N x0 x1 x2 x3 x4 g) K := by
  unfold f_L_law_1670
  refine J_goto (tg := 1673) (show Dc Y_L_law 1670 (.goto 3) 3 1673 from ⟨by decide +kernel, rfl⟩) (by decide) ?_
  exact J_mono (by show 615 + x4.toNatClampNeg + 1 ≤ 615 + x4.toNatClampNeg + 1; omega) (by show 9696 + 2 * x4.toNatClampNeg + 6 ≤ 9696 + 2 * x4.toNatClampNeg + 6; omega) <| j_L_law_1673 hst N x0 x1 x2 x3 x4 g h0 hL23

theorem j_L_law_1618 {X : ZX} (hst : (xl X).stackTraces = false) (N : Nat) (x0 : Nat) (x1 : Nat) (x2 : Nat) (x3 : Nat) (x4 : Int32)   (g : ZS) {K : ((Int32 × ZS) ⊕ (Int32 × ZS)) → Prop} (h0 : ∀ v g, K (.inr (v, g)) → xK X (some (.int v)) g) (hL23 : ∀ s, K (.inl s) → zG Y_L_law X (615 + s.1.toNatClampNeg) (9696 + 2 * s.1.toNatClampNeg) 23 [some (.ref x0), some (.ref x1), some (.ref x2), some (.ref x3), some (.int s.1), none, none, none] [] s.2) : J Y_L_law X (615 + x4.toNatClampNeg) (9696 + 2 * x4.toNatClampNeg) 1618 [some (.ref x0), some (.ref x1), some (.ref x2), some (.ref x3), some (.int x4), none, none, none] [] g (f_L_law_1618 N x0 x1 x2 x3 x4 g) K := by
  unfold f_L_law_1618
  refine J_cap (fun hi => ?_)
  refine J_aload_n rfl rfl (show Dc Y_L_law 1618 (.aload_n 1) 1 1619 from ⟨by decide +kernel, rfl⟩) ?_
  refine J_aload_n rfl rfl (show Dc Y_L_law 1619 (.aload_n 0) 1 1620 from ⟨by decide +kernel, rfl⟩) ?_
  refine J_iload rfl (show Dc Y_L_law 1620 (.iload 4) 2 1622 from ⟨by decide +kernel, rfl⟩) ?_
  refine J_iconst (1 : Int32) rfl (show Dc Y_L_law 1622 (.iconst 1) 1 1623 from ⟨by decide +kernel, rfl⟩) ?_
  refine J_iadd (show Dc Y_L_law 1623 (.iadd) 1 1624 from ⟨by decide +kernel, rfl⟩) ?_
  refine J_sald (show Dc Y_L_law 1624 (.iaload) 1 1625 from ⟨by decide +kernel, rfl⟩) (fun v1 => ?_)
  refine J_aload_n rfl rfl (show Dc Y_L_law 1625 (.aload_n 3) 1 1626 from ⟨by decide +kernel, rfl⟩) ?_
  refine J_callSW (fun r => r.1) (fun r => r.2) (show Dc Y_L_law 1626 (.invokestatic 228) 3 1629 from ⟨by decide +kernel, rfl⟩) w_m_RL_228 w_st_L_row w_cwW_L_row (c_L_row hst N x1 v1 x3 g) rfl rfl (by decide) (Nat.le_of_ble_eq_true rfl) (by show 615 + x4.toNatClampNeg + 1 ≤ 601024; omega) (by show 9696 + 2 * x4.toNatClampNeg + 6 ≤ 7293034; omega) (fun r2 => ?_)
  refine J_istore [some (.ref x0), some (.ref x1), some (.ref x2), some (.ref x3), some (.int x4), some (.int r2.1), none, none] (show Dc Y_L_law 1629 (.istore 5) 2 1631 from ⟨by decide +kernel, rfl⟩) (by decide) rfl rfl ?_
  refine J_aload_n rfl rfl (show Dc Y_L_law 1631 (.aload_n 2) 1 1632 from ⟨by decide +kernel, rfl⟩) ?_
  refine J_aload_n rfl rfl (show Dc Y_L_law 1632 (.aload_n 0) 1 1633 from ⟨by decide +kernel, rfl⟩) ?_
  refine J_iload rfl (show Dc Y_L_law 1633 (.iload 4) 2 1635 from ⟨by decide +kernel, rfl⟩) ?_
  refine J_iconst (1 : Int32) rfl (show Dc Y_L_law 1635 (.iconst 1) 1 1636 from ⟨by decide +kernel, rfl⟩) ?_
  refine J_iadd (show Dc Y_L_law 1636 (.iadd) 1 1637 from ⟨by decide +kernel, rfl⟩) ?_
  refine J_sald (show Dc Y_L_law 1637 (.iaload) 1 1638 from ⟨by decide +kernel, rfl⟩) (fun v3 => ?_)
  refine J_callVl (fun r => r.1) (fun r => r.2) (show Dc Y_L_law 1638 (.invokevirtual 231) 3 1641 from ⟨by decide +kernel, rfl⟩) w_m_RL_231 w_in_X12_row rfl w_se_X12_row w_cw_X12_row (c_X12_row x2 v3 r2.2) rfl rfl (by decide) (Nat.le_of_ble_eq_true rfl) (by show 615 + x4.toNatClampNeg + 1 + 0 ≤ 601024; omega) (by show 9696 + 2 * x4.toNatClampNeg + 6 + 0 ≤ 7293034; omega) (fun r4 => ?_)
  refine J_lstore [some (.ref x0), some (.ref x1), some (.ref x2), some (.ref x3), some (.int x4), some (.int r2.1), some (.long r4.1), none] (show Dc Y_L_law 1641 (.lstore 6) 2 1643 from ⟨by decide +kernel, rfl⟩) (by decide) rfl rfl ?_
  refine J_aload_n rfl rfl (show Dc Y_L_law 1643 (.aload_n 2) 1 1644 from ⟨by decide +kernel, rfl⟩) ?_
  refine J_callVi (fun r => r) (fun _ => r4.2) (show Dc Y_L_law 1644 (.invokevirtual 60) 3 1647 from ⟨by decide +kernel, rfl⟩) w_m_RL_60 w_in_X12_thrown rfl w_se_X12_thrown w_cw_X12_thrown (c_X12_thrown x2 r4.2) rfl rfl (by decide) (Nat.le_of_ble_eq_true rfl) (by show 615 + x4.toNatClampNeg + 1 + 0 + 0 ≤ 601024; omega) (by show 9696 + 2 * x4.toNatClampNeg + 6 + 0 + 0 ≤ 7293034; omega) (fun v5 => ?_)
  refine J_iload rfl (show Dc Y_L_law 1647 (.iload 5) 2 1649 from ⟨by decide +kernel, rfl⟩) ?_
  refine J_icmp_eq (tg := 1654) (show Dc Y_L_law 1649 (.if_icmp .eq 5) 3 1652 from ⟨by decide +kernel, rfl⟩) (by decide) (fun h => ?_) (fun h => ?_)
  · refine J_iload rfl (show Dc Y_L_law 1654 (.iload 5) 2 1656 from ⟨by decide +kernel, rfl⟩) ?_
    refine J_if_ne (tg := 1670) (show Dc Y_L_law 1656 (.ifCond .ne 14) 3 1659 from ⟨by decide +kernel, rfl⟩) (by decide) (fun h => ?_) (fun h => ?_)
    · refine J_mask [true, true, true, true, true, false, false, false] ?_
      exact J_mono (by show 615 + x4.toNatClampNeg + 1 + 0 + 0 ≤ 615 + x4.toNatClampNeg + 1; omega) (by show 9696 + 2 * x4.toNatClampNeg + 6 + 0 + 0 ≤ 9696 + 2 * x4.toNatClampNeg + 6; omega) <| j_L_law_1670 hst N x0 x1 x2 x3 x4 r4.2 h0 hL23
    · refine J_aload_n rfl rfl (show Dc Y_L_law 1659 (.aload_n 3) 1 1660 from ⟨by decide +kernel, rfl⟩) ?_
      refine J_iconst (0 : Int32) rfl (show Dc Y_L_law 1660 (.iconst 0) 1 1661 from ⟨by decide +kernel, rfl⟩) ?_
      refine J_lald (show Dc Y_L_law 1661 (.laload) 1 1662 from ⟨by decide +kernel, rfl⟩) (fun v6 => ?_)
      refine J_lload rfl (show Dc Y_L_law 1662 (.lload 6) 2 1664 from ⟨by decide +kernel, rfl⟩) ?_
      refine J_lcmp (show Dc Y_L_law 1664 (.lcmp) 1 1665 from ⟨by decide +kernel, rfl⟩) ?_
      refine J_if_eq (tg := 1670) (show Dc Y_L_law 1665 (.ifCond .eq 5) 3 1668 from ⟨by decide +kernel, rfl⟩) (by decide) (fun h => ?_) (fun h => ?_)
      · refine J_mask [true, true, true, true, true, false, false, false] ?_
        exact J_mono (by show 615 + x4.toNatClampNeg + 1 + 0 + 0 ≤ 615 + x4.toNatClampNeg + 1; omega) (by show 9696 + 2 * x4.toNatClampNeg + 6 + 0 + 0 ≤ 9696 + 2 * x4.toNatClampNeg + 6; omega) <| j_L_law_1670 hst N x0 x1 x2 x3 x4 r4.2 h0 hL23
      · refine J_map (f := Sum.inr) (fun _ h => h) ?_
        refine J_iconst (0 : Int32) rfl (show Dc Y_L_law 1668 (.iconst 0) 1 1669 from ⟨by decide +kernel, rfl⟩) ?_
        exact J_retz rfl (show Dc Y_L_law 1669 (.ireturn) 1 1670 from ⟨by decide +kernel, rfl⟩) rfl (h0 _ _) (by show 615 + x4.toNatClampNeg + 1 + 0 + 0 ≤ 601024; omega) (by show 9696 + 2 * x4.toNatClampNeg + 6 + 0 + 0 ≤ 7293034; omega)
  · refine J_map (f := Sum.inr) (fun _ h => h) ?_
    refine J_iconst (0 : Int32) rfl (show Dc Y_L_law 1652 (.iconst 0) 1 1653 from ⟨by decide +kernel, rfl⟩) ?_
    exact J_retz rfl (show Dc Y_L_law 1653 (.ireturn) 1 1654 from ⟨by decide +kernel, rfl⟩) rfl (h0 _ _) (by show 615 + x4.toNatClampNeg + 1 + 0 + 0 ≤ 601024; omega) (by show 9696 + 2 * x4.toNatClampNeg + 6 + 0 + 0 ≤ 7293034; omega)

theorem j_L_law_23 {X : ZX} (hst : (xl X).stackTraces = false) (N : Nat) (x0 : Nat) (x1 : Nat) (x2 : Nat) (x3 : Nat) (x4 : Int32)   (g : ZS) {K : ((Int32 × ZS) ⊕ (Int32 × ZS)) → Prop} (h0 : ∀ v g, K (.inr (v, g)) → xK X (some (.int v)) g) (hL23 : ∀ s, K (.inl s) → zG Y_L_law X (615 + s.1.toNatClampNeg) (9696 + 2 * s.1.toNatClampNeg) 23 [some (.ref x0), some (.ref x1), some (.ref x2), some (.ref x3), some (.int s.1), none, none, none] [] s.2) : J Y_L_law X (615 + x4.toNatClampNeg) (9696 + 2 * x4.toNatClampNeg) 23 [some (.ref x0), some (.ref x1), some (.ref x2), some (.ref x3), some (.int x4), none, none, none] [] g (f_L_law_23 N x0 x1 x2 x3 x4 g) K := by
  unfold f_L_law_23
  refine J_cap (fun hi => ?_)
  refine J_iload rfl (show Dc Y_L_law 23 (.iload 4) 2 25 from ⟨by decide +kernel, rfl⟩) ?_
  refine J_aload_n rfl rfl (show Dc Y_L_law 25 (.aload_n 0) 1 26 from ⟨by decide +kernel, rfl⟩) ?_
  refine J_slen2 (show Dc Y_L_law 26 (.arraylength) 1 27 from ⟨by decide +kernel, rfl⟩) (fun v1 => ?_)
  refine J_iconst (5 : Int32) rfl (show Dc Y_L_law 27 (.iconst 5) 1 28 from ⟨by decide +kernel, rfl⟩) ?_
  refine J_isub (show Dc Y_L_law 28 (.isub) 1 29 from ⟨by decide +kernel, rfl⟩) ?_
  refine J_icmp_gt (tg := 1679) (show Dc Y_L_law 29 (.if_icmp .gt 1650) 3 32 from ⟨by decide +kernel, rfl⟩) (by decide) (fun h => ?_) (fun h => ?_)
  · refine J_map (f := Sum.inr) (fun _ h => h) ?_
    refine J_iconst (1 : Int32) rfl (show Dc Y_L_law 1679 (.iconst 1) 1 1680 from ⟨by decide +kernel, rfl⟩) ?_
    exact J_retz rfl (show Dc Y_L_law 1680 (.ireturn) 1 1681 from ⟨by decide +kernel, rfl⟩) rfl (h0 _ _) (by show 615 + x4.toNatClampNeg ≤ 601024; omega) (by show 9696 + 2 * x4.toNatClampNeg ≤ 7293034; omega)
  · refine J_aload_n rfl rfl (show Dc Y_L_law 32 (.aload_n 0) 1 33 from ⟨by decide +kernel, rfl⟩) ?_
    refine J_iload rfl (show Dc Y_L_law 33 (.iload 4) 2 35 from ⟨by decide +kernel, rfl⟩) ?_
    refine J_sald (show Dc Y_L_law 35 (.iaload) 1 36 from ⟨by decide +kernel, rfl⟩) (fun v2 => ?_)
    refine J_bipush (63 : Int32) rfl (show Dc Y_L_law 36 (.bipush 63) 2 38 from ⟨by decide +kernel, rfl⟩) ?_
    refine J_iand (show Dc Y_L_law 38 (.iand) 1 39 from ⟨by decide +kernel, rfl⟩) ?_
    refine J_tsw (tgd := 1673) [((0 : Int32), 248, _), ((1 : Int32), 273, _), ((2 : Int32), 298, _), ((3 : Int32), 323, _), ((4 : Int32), 336, _), ((5 : Int32), 349, _), ((6 : Int32), 362, _), ((7 : Int32), 430, _), ((8 : Int32), 510, _), ((9 : Int32), 547, _), ((10 : Int32), 608, _), ((11 : Int32), 633, _), ((12 : Int32), 670, _), ((13 : Int32), 695, _), ((14 : Int32), 732, _), ((15 : Int32), 757, _), ((16 : Int32), 770, _), ((17 : Int32), 783, _), ((18 : Int32), 796, _), ((19 : Int32), 821, _), ((20 : Int32), 858, _), ((21 : Int32), 883, _), ((22 : Int32), 896, _), ((23 : Int32), 933, _), ((24 : Int32), 958, _), ((25 : Int32), 995, _), ((26 : Int32), 1044, _), ((27 : Int32), 1081, _), ((28 : Int32), 1118, _), ((29 : Int32), 1155, _), ((30 : Int32), 1168, _), ((31 : Int32), 1205, _), ((32 : Int32), 1242, _), ((33 : Int32), 1279, _), ((34 : Int32), 1292, _), ((35 : Int32), 1305, _), ((36 : Int32), 1318, _), ((37 : Int32), 1343, _), ((38 : Int32), 1392, _), ((39 : Int32), 1429, _), ((40 : Int32), 1442, _), ((41 : Int32), 1455, _), ((42 : Int32), 1468, _), ((43 : Int32), 1493, _), ((44 : Int32), 1506, _), ((45 : Int32), 1543, _), ((46 : Int32), 1568, _), ((47 : Int32), 1593, _), ((48 : Int32), 1618, _)] (show Dc Y_L_law 39 (.tableswitch 1634 0 48 #[209, 234, 259, 284, 297, 310, 323, 391, 471, 508, 569, 594, 631, 656, 693, 718, 731, 744, 757, 782, 819, 844, 857, 894, 919, 956, 1005, 1042, 1079, 1116, 1129, 1166, 1203, 1240, 1253, 1266, 1279, 1304, 1353, 1390, 1403, 1416, 1429, 1454, 1467, 1504, 1529, 1554, 1579]) 209 248 from ⟨by decide +kernel, rfl⟩) (by simp only [List.map_cons, List.map_nil]; decide +kernel) ?_ ?_
    · refine List.forall_mem_cons.mpr ⟨?_, List.forall_mem_cons.mpr ⟨?_, List.forall_mem_cons.mpr ⟨?_, List.forall_mem_cons.mpr ⟨?_, List.forall_mem_cons.mpr ⟨?_, List.forall_mem_cons.mpr ⟨?_, List.forall_mem_cons.mpr ⟨?_, List.forall_mem_cons.mpr ⟨?_, List.forall_mem_cons.mpr ⟨?_, List.forall_mem_cons.mpr ⟨?_, List.forall_mem_cons.mpr ⟨?_, List.forall_mem_cons.mpr ⟨?_, List.forall_mem_cons.mpr ⟨?_, List.forall_mem_cons.mpr ⟨?_, List.forall_mem_cons.mpr ⟨?_, List.forall_mem_cons.mpr ⟨?_, List.forall_mem_cons.mpr ⟨?_, List.forall_mem_cons.mpr ⟨?_, List.forall_mem_cons.mpr ⟨?_, List.forall_mem_cons.mpr ⟨?_, List.forall_mem_cons.mpr ⟨?_, List.forall_mem_cons.mpr ⟨?_, List.forall_mem_cons.mpr ⟨?_, List.forall_mem_cons.mpr ⟨?_, List.forall_mem_cons.mpr ⟨?_, List.forall_mem_cons.mpr ⟨?_, List.forall_mem_cons.mpr ⟨?_, List.forall_mem_cons.mpr ⟨?_, List.forall_mem_cons.mpr ⟨?_, List.forall_mem_cons.mpr ⟨?_, List.forall_mem_cons.mpr ⟨?_, List.forall_mem_cons.mpr ⟨?_, List.forall_mem_cons.mpr ⟨?_, List.forall_mem_cons.mpr ⟨?_, List.forall_mem_cons.mpr ⟨?_, List.forall_mem_cons.mpr ⟨?_, List.forall_mem_cons.mpr ⟨?_, List.forall_mem_cons.mpr ⟨?_, List.forall_mem_cons.mpr ⟨?_, List.forall_mem_cons.mpr ⟨?_, List.forall_mem_cons.mpr ⟨?_, List.forall_mem_cons.mpr ⟨?_, List.forall_mem_cons.mpr ⟨?_, List.forall_mem_cons.mpr ⟨?_, List.forall_mem_cons.mpr ⟨?_, List.forall_mem_cons.mpr ⟨?_, List.forall_mem_cons.mpr ⟨?_, List.forall_mem_cons.mpr ⟨?_, List.forall_mem_cons.mpr ⟨?_, fun _ h => absurd h List.not_mem_nil⟩⟩⟩⟩⟩⟩⟩⟩⟩⟩⟩⟩⟩⟩⟩⟩⟩⟩⟩⟩⟩⟩⟩⟩⟩⟩⟩⟩⟩⟩⟩⟩⟩⟩⟩⟩⟩⟩⟩⟩⟩⟩⟩⟩⟩⟩⟩⟩⟩
      · exact j_L_law_248 hst N x0 x1 x2 x3 x4 g h0 hL23
      · exact j_L_law_273 hst N x0 x1 x2 x3 x4 g h0 hL23
      · exact j_L_law_298 hst N x0 x1 x2 x3 x4 g h0 hL23
      · exact j_L_law_323 hst N x0 x1 x2 x3 x4 g h0 hL23
      · exact j_L_law_336 hst N x0 x1 x2 x3 x4 g h0 hL23
      · exact j_L_law_349 hst N x0 x1 x2 x3 x4 g h0 hL23
      · exact j_L_law_362 hst N x0 x1 x2 x3 x4 g h0 hL23
      · exact j_L_law_430 hst N x0 x1 x2 x3 x4 g h0 hL23
      · exact j_L_law_510 hst N x0 x1 x2 x3 x4 g h0 hL23
      · exact j_L_law_547 hst N x0 x1 x2 x3 x4 g h0 hL23
      · exact j_L_law_608 hst N x0 x1 x2 x3 x4 g h0 hL23
      · exact j_L_law_633 hst N x0 x1 x2 x3 x4 g h0 hL23
      · exact j_L_law_670 hst N x0 x1 x2 x3 x4 g h0 hL23
      · exact j_L_law_695 hst N x0 x1 x2 x3 x4 g h0 hL23
      · exact j_L_law_732 hst N x0 x1 x2 x3 x4 g h0 hL23
      · exact j_L_law_757 hst N x0 x1 x2 x3 x4 g h0 hL23
      · exact j_L_law_770 hst N x0 x1 x2 x3 x4 g h0 hL23
      · exact j_L_law_783 hst N x0 x1 x2 x3 x4 g h0 hL23
      · exact j_L_law_796 hst N x0 x1 x2 x3 x4 g h0 hL23
      · exact j_L_law_821 hst N x0 x1 x2 x3 x4 g h0 hL23
      · exact j_L_law_858 hst N x0 x1 x2 x3 x4 g h0 hL23
      · exact j_L_law_883 hst N x0 x1 x2 x3 x4 g h0 hL23
      · exact j_L_law_896 hst N x0 x1 x2 x3 x4 g h0 hL23
      · exact j_L_law_933 hst N x0 x1 x2 x3 x4 g h0 hL23
      · exact j_L_law_958 hst N x0 x1 x2 x3 x4 g h0 hL23
      · exact j_L_law_995 hst N x0 x1 x2 x3 x4 g h0 hL23
      · exact j_L_law_1044 hst N x0 x1 x2 x3 x4 g h0 hL23
      · exact j_L_law_1081 hst N x0 x1 x2 x3 x4 g h0 hL23
      · exact j_L_law_1118 hst N x0 x1 x2 x3 x4 g h0 hL23
      · exact j_L_law_1155 hst N x0 x1 x2 x3 x4 g h0 hL23
      · exact j_L_law_1168 hst N x0 x1 x2 x3 x4 g h0 hL23
      · exact j_L_law_1205 hst N x0 x1 x2 x3 x4 g h0 hL23
      · exact j_L_law_1242 hst N x0 x1 x2 x3 x4 g h0 hL23
      · exact j_L_law_1279 hst N x0 x1 x2 x3 x4 g h0 hL23
      · exact j_L_law_1292 hst N x0 x1 x2 x3 x4 g h0 hL23
      · exact j_L_law_1305 hst N x0 x1 x2 x3 x4 g h0 hL23
      · exact j_L_law_1318 hst N x0 x1 x2 x3 x4 g h0 hL23
      · exact j_L_law_1343 hst N x0 x1 x2 x3 x4 g h0 hL23
      · exact j_L_law_1392 hst N x0 x1 x2 x3 x4 g h0 hL23
      · exact j_L_law_1429 hst N x0 x1 x2 x3 x4 g h0 hL23
      · exact j_L_law_1442 hst N x0 x1 x2 x3 x4 g h0 hL23
      · exact j_L_law_1455 hst N x0 x1 x2 x3 x4 g h0 hL23
      · exact j_L_law_1468 hst N x0 x1 x2 x3 x4 g h0 hL23
      · exact j_L_law_1493 hst N x0 x1 x2 x3 x4 g h0 hL23
      · exact j_L_law_1506 hst N x0 x1 x2 x3 x4 g h0 hL23
      · exact j_L_law_1543 hst N x0 x1 x2 x3 x4 g h0 hL23
      · exact j_L_law_1568 hst N x0 x1 x2 x3 x4 g h0 hL23
      · exact j_L_law_1593 hst N x0 x1 x2 x3 x4 g h0 hL23
      · exact j_L_law_1618 hst N x0 x1 x2 x3 x4 g h0 hL23
    · exact J_mono (by show 615 + x4.toNatClampNeg ≤ 615 + x4.toNatClampNeg + 1; omega) (by show 9696 + 2 * x4.toNatClampNeg ≤ 9696 + 2 * x4.toNatClampNeg + 6; omega) <| j_L_law_1673 hst N x0 x1 x2 x3 x4 g h0 hL23

theorem j_L_law {X : ZX} (hst : (xl X).stackTraces = false) (N : Nat) (x0 : Nat)   (g : ZS) {K : (Int32 × ZS) → Prop} (h0 : ∀ v g, K (v, g) → xK X (some (.int v)) g) : J Y_L_law X 0 0 0 [some (.ref x0), none, none, none, none, none, none, none] [] g (f_L_law N x0 g) K := by
  unfold f_L_law
  refine J_new (show Dc Y_L_law 0 (.new 8) 3 3 from ⟨by decide +kernel, rfl⟩) w_n_RL_8 (by decide) (by decide) (fun p1 => ?_)
  refine J_dup rfl (show Dc Y_L_law 3 (.dup) 1 4 from ⟨by decide +kernel, rfl⟩) ?_
  refine J_callI (so := fun r => r) (show Dc Y_L_law 4 (.invokespecial 23) 3 7 from ⟨by decide +kernel, rfl⟩) w_m_RL_23 w_in_X11_init rfl rfl w_cw_X11_init (c_X11_init p1.1 p1.2) rfl rfl (by decide) (Nat.le_of_ble_eq_true rfl) (by decide) (by decide) (fun g2 _ => ?_)
  refine J_astore_n [some (.ref x0), some (.ref p1.1), none, none, none, none, none, none] (show Dc Y_L_law 7 (.astore_n 1) 1 8 from ⟨by decide +kernel, rfl⟩) rfl (by decide) rfl rfl ?_
  refine J_new (show Dc Y_L_law 8 (.new 24) 3 11 from ⟨by decide +kernel, rfl⟩) w_n_RL_24 (by decide) (by decide) (fun p3 => ?_)
  refine J_dup rfl (show Dc Y_L_law 11 (.dup) 1 12 from ⟨by decide +kernel, rfl⟩) ?_
  refine J_callI (so := fun r => r) (show Dc Y_L_law 12 (.invokespecial 26) 3 15 from ⟨by decide +kernel, rfl⟩) w_m_RL_26 w_in_X12_init rfl rfl w_cw_X12_init (c_X12_init p3.1 p3.2) rfl rfl (by decide) (Nat.le_of_ble_eq_true rfl) (by decide) (by decide) (fun g4 _ => ?_)
  refine J_astore_n [some (.ref x0), some (.ref p1.1), some (.ref p3.1), none, none, none, none, none] (show Dc Y_L_law 15 (.astore_n 2) 1 16 from ⟨by decide +kernel, rfl⟩) rfl (by decide) rfl rfl ?_
  refine J_iconst (1 : Int32) rfl (show Dc Y_L_law 16 (.iconst 1) 1 17 from ⟨by decide +kernel, rfl⟩) ?_
  refine J_newa (kd := 24) (n := 1) (show Dc Y_L_law 17 (.newarray .long) 2 19 from ⟨by decide +kernel, rfl⟩) (by decide) (by decide) rfl w_ac24 (by decide) rfl (by decide) (by decide) (by decide) (fun p5 => ?_)
  refine J_astore_n [some (.ref x0), some (.ref p1.1), some (.ref p3.1), some (.ref p5.1), none, none, none, none] (show Dc Y_L_law 19 (.astore_n 3) 1 20 from ⟨by decide +kernel, rfl⟩) rfl (by decide) rfl rfl ?_
  refine J_iconst (0 : Int32) rfl (show Dc Y_L_law 20 (.iconst 0) 1 21 from ⟨by decide +kernel, rfl⟩) ?_
  refine J_istore [some (.ref x0), some (.ref p1.1), some (.ref p3.1), some (.ref p5.1), some (.int (0 : Int32)), none, none, none] (show Dc Y_L_law 21 (.istore 4) 2 23 from ⟨by decide +kernel, rfl⟩) (by decide) rfl rfl ?_
  exact J_mono (by show 615 ≤ 615 + (0 : Int32).toNatClampNeg; decide) (by show 9696 ≤ 9696 + 2 * (0 : Int32).toNatClampNeg; decide) <| J_loop (X := X) (K := K) (uc := fun s => (615 + s.1.toNatClampNeg)) (us := fun s => (9696 + 2 * s.1.toNatClampNeg)) (lf := fun s => [some (.ref x0), some (.ref p1.1), some (.ref p3.1), some (.ref p5.1), some (.int s.1), none, none, none]) (gf := fun s => s.2) (fun s => j_L_law_23 (K := zKl Y_L_law X 23 (fun s => (615 + s.1.toNatClampNeg)) (fun s => (9696 + 2 * s.1.toNatClampNeg)) (fun s => [some (.ref x0), some (.ref p1.1), some (.ref p3.1), some (.ref p5.1), some (.int s.1), none, none, none]) (fun s => s.2) K) hst N x0 p1.1 p3.1 p5.1 s.1 s.2 h0 (fun s h => h)) N ((0 : Int32), p5.2)
