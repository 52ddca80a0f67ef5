def f_X2_init (x0 : Nat)  (g : ZS) : Option ZS :=
  (zallocM g 4 16).bind fun p1 =>
  (zwrR p1.2 x0 2 0 p1.1).bind fun g2 =>
  (zalloc g2 (20, 4)).bind fun p3 =>
  (zwrR p3.2 x0 2 1 p3.1).bind fun g4 =>
  (zrdR g4 x0 2 1).bind fun v5 =>
  (zast 20 g4 v5 (0 : Int32) (1 : Int32)).bind fun g6 =>
  (zrdR g6 x0 2 1).bind fun v7 =>
  (zast 20 g6 v7 (1 : Int32) (1 : Int32)).bind fun g8 =>
  (zrdR g8 x0 2 1).bind fun v9 =>
  (zast 20 g8 v9 (2 : Int32) (1 : Int32)).bind fun g10 =>
  (zrdR g10 x0 2 1).bind fun v11 =>
  (zast 20 g10 v11 (3 : Int32) (1 : Int32)).bind fun g12 =>
  some g12

def f_X6_init (x0 : Nat)  (g : ZS) : Option ZS :=
  (zalloc g (25, 6)).bind fun p1 =>
  (zwrR p1.2 x0 6 0 p1.1).bind fun g2 =>
  (zrdR g2 x0 6 0).bind fun v3 =>
  (zalloc g2 (0, 0)).bind fun p4 =>
  (f_X0_init p4.1 p4.2).bind fun g5 =>
  (zaast 25 g5 v3 (0 : Int32) p4.1).bind fun g6 =>
  (zrdR g6 x0 6 0).bind fun v7 =>
  (zalloc g6 (0, 0)).bind fun p8 =>
  (f_X0_init p8.1 p8.2).bind fun g9 =>
  (zaast 25 g9 v7 (1 : Int32) p8.1).bind fun g10 =>
  (zrdR g10 x0 6 0).bind fun v11 =>
  (zalloc g10 (0, 0)).bind fun p12 =>
  (f_X0_init p12.1 p12.2).bind fun g13 =>
  (zaast 25 g13 v11 (2 : Int32) p12.1).bind fun g14 =>
  (zrdR g14 x0 6 0).bind fun v15 =>
  (zalloc g14 (0, 0)).bind fun p16 =>
  (f_X0_init p16.1 p16.2).bind fun g17 =>
  (zaast 25 g17 v15 (3 : Int32) p16.1).bind fun g18 =>
  (zrdR g18 x0 6 0).bind fun v19 =>
  (zalloc g18 (0, 0)).bind fun p20 =>
  (f_X0_init p20.1 p20.2).bind fun g21 =>
  (zaast 25 g21 v19 (4 : Int32) p20.1).bind fun g22 =>
  (zrdR g22 x0 6 0).bind fun v23 =>
  (zalloc g22 (0, 0)).bind fun p24 =>
  (f_X0_init p24.1 p24.2).bind fun g25 =>
  (zaast 25 g25 v23 (5 : Int32) p24.1).bind fun g26 =>
  some g26

def f_X4_init (x0 : Nat)  (g : ZS) : Option ZS :=
  (zalloc g (26, 12)).bind fun p1 =>
  (zwrR p1.2 x0 4 0 p1.1).bind fun g2 =>
  (zrdR g2 x0 4 0).bind fun v3 =>
  (zalloc g2 (6, 0)).bind fun p4 =>
  (f_X6_init p4.1 p4.2).bind fun g5 =>
  (zaast 26 g5 v3 (0 : Int32) p4.1).bind fun g6 =>
  (zrdR g6 x0 4 0).bind fun v7 =>
  (zalloc g6 (6, 0)).bind fun p8 =>
  (f_X6_init p8.1 p8.2).bind fun g9 =>
  (zaast 26 g9 v7 (1 : Int32) p8.1).bind fun g10 =>
  (zrdR g10 x0 4 0).bind fun v11 =>
  (zalloc g10 (6, 0)).bind fun p12 =>
  (f_X6_init p12.1 p12.2).bind fun g13 =>
  (zaast 26 g13 v11 (2 : Int32) p12.1).bind fun g14 =>
  (zrdR g14 x0 4 0).bind fun v15 =>
  (zalloc g14 (6, 0)).bind fun p16 =>
  (f_X6_init p16.1 p16.2).bind fun g17 =>
  (zaast 26 g17 v15 (3 : Int32) p16.1).bind fun g18 =>
  (zrdR g18 x0 4 0).bind fun v19 =>
  (zalloc g18 (6, 0)).bind fun p20 =>
  (f_X6_init p20.1 p20.2).bind fun g21 =>
  (zaast 26 g21 v19 (4 : Int32) p20.1).bind fun g22 =>
  (zrdR g22 x0 4 0).bind fun v23 =>
  (zalloc g22 (6, 0)).bind fun p24 =>
  (f_X6_init p24.1 p24.2).bind fun g25 =>
  (zaast 26 g25 v23 (5 : Int32) p24.1).bind fun g26 =>
  (zrdR g26 x0 4 0).bind fun v27 =>
  (zalloc g26 (6, 0)).bind fun p28 =>
  (f_X6_init p28.1 p28.2).bind fun g29 =>
  (zaast 26 g29 v27 (6 : Int32) p28.1).bind fun g30 =>
  (zrdR g30 x0 4 0).bind fun v31 =>
  (zalloc g30 (6, 0)).bind fun p32 =>
  (f_X6_init p32.1 p32.2).bind fun g33 =>
  (zaast 26 g33 v31 (7 : Int32) p32.1).bind fun g34 =>
  (zrdR g34 x0 4 0).bind fun v35 =>
  (zalloc g34 (6, 0)).bind fun p36 =>
  (f_X6_init p36.1 p36.2).bind fun g37 =>
  (zaast 26 g37 v35 (8 : Int32) p36.1).bind fun g38 =>
  (zrdR g38 x0 4 0).bind fun v39 =>
  (zalloc g38 (6, 0)).bind fun p40 =>
  (f_X6_init p40.1 p40.2).bind fun g41 =>
  (zaast 26 g41 v39 (9 : Int32) p40.1).bind fun g42 =>
  (zrdR g42 x0 4 0).bind fun v43 =>
  (zalloc g42 (6, 0)).bind fun p44 =>
  (f_X6_init p44.1 p44.2).bind fun g45 =>
  (zaast 26 g45 v43 (10 : Int32) p44.1).bind fun g46 =>
  (zrdR g46 x0 4 0).bind fun v47 =>
  (zalloc g46 (6, 0)).bind fun p48 =>
  (f_X6_init p48.1 p48.2).bind fun g49 =>
  (zaast 26 g49 v47 (11 : Int32) p48.1).bind fun g50 =>
  some g50

def f_X10_init (x0 : Nat)  (g : ZS) : Option ZS :=
  (zalloc g (20, 8)).bind fun p1 =>
  (zwrR p1.2 x0 10 0 p1.1).bind fun g2 =>
  (zalloc g2 (20, 8)).bind fun p3 =>
  (zwrR p3.2 x0 10 1 p3.1).bind fun g4 =>
  (zallocM g4 9 9).bind fun p5 =>
  (zwrR p5.2 x0 10 2 p5.1).bind fun g6 =>
  some g6

def f_X11_init (x0 : Nat)  (g : ZS) : Option ZS :=
  (zalloc g (8, 0)).bind fun p1 =>
  (f_X8_init p1.1 p1.2).bind fun g2 =>
  (zwrR g2 x0 11 0 p1.1).bind fun g3 =>
  (zalloc g3 (9, 0)).bind fun p4 =>
  (f_X9_init p4.1 p4.2).bind fun g5 =>
  (zwrR g5 x0 11 1 p4.1).bind fun g6 =>
  (zalloc g6 (2, 0)).bind fun p7 =>
  (f_X2_init p7.1 p7.2).bind fun g8 =>
  (zwrR g8 x0 11 2 p7.1).bind fun g9 =>
  (zalloc g9 (20, 8)).bind fun p10 =>
  (zwrR p10.2 x0 11 3 p10.1).bind fun g11 =>
  (zalloc g11 (5, 0)).bind fun p12 =>
  (f_X5_init p12.1 p12.2).bind fun g13 =>
  (zwrR g13 x0 11 4 p12.1).bind fun g14 =>
  (zalloc g14 (5, 0)).bind fun p15 =>
  (f_X5_init p15.1 p15.2).bind fun g16 =>
  (zwrR g16 x0 11 5 p15.1).bind fun g17 =>
  (zalloc g17 (6, 0)).bind fun p18 =>
  (f_X6_init p18.1 p18.2).bind fun g19 =>
  (zwrR g19 x0 11 6 p18.1).bind fun g20 =>
  (zalloc g20 (6, 0)).bind fun p21 =>
  (f_X6_init p21.1 p21.2).bind fun g22 =>
  (zwrR g22 x0 11 7 p21.1).bind fun g23 =>
  (zalloc g23 (4, 0)).bind fun p24 =>
  (f_X4_init p24.1 p24.2).bind fun g25 =>
  (zwrR g25 x0 11 8 p24.1).bind fun g26 =>
  (zalloc g26 (26, 2)).bind fun p27 =>
  (zwrR p27.2 x0 11 9 p27.1).bind fun g28 =>
  (zalloc g28 (22, 2)).bind fun p29 =>
  (zwrR p29.2 x0 11 10 p29.1).bind fun g30 =>
  (zalloc g30 (0, 0)).bind fun p31 =>
  (f_X0_init p31.1 p31.2).bind fun g32 =>
  (zwrR g32 x0 11 11 p31.1).bind fun g33 =>
  (zalloc g33 (10, 0)).bind fun p34 =>
  (f_X10_init p34.1 p34.2).bind fun g35 =>
  (zwrR g35 x0 11 12 p34.1).bind fun g36 =>
  (zalloc g36 (10, 0)).bind fun p37 =>
  (f_X10_init p37.1 p37.2).bind fun g38 =>
  (zwrR g38 x0 11 13 p37.1).bind fun g39 =>
  (zalloc g39 (7, 0)).bind fun p40 =>
  (f_X7_init p40.1 p40.2).bind fun g41 =>
  (zwrR g41 x0 11 14 p40.1).bind fun g42 =>
  (zalloc g42 (3, 0)).bind fun p43 =>
  (f_X3_init p43.1 p43.2).bind fun g44 =>
  (zwrR g44 x0 11 15 p43.1).bind fun g45 =>
  (zalloc g45 (20, 6)).bind fun p46 =>
  (zwrR p46.2 x0 11 16 p46.1).bind fun g47 =>
  (zalloc g47 (20, 8)).bind fun p48 =>
  (zwrR p48.2 x0 11 17 p48.1).bind fun g49 =>
  (zrdR g49 x0 11 3).bind fun v50 =>
  (zast 20 g49 v50 (0 : Int32) (1 : Int32)).bind fun g51 =>
  (zrdR g51 x0 11 3).bind fun v52 =>
  (zast 20 g51 v52 (1 : Int32) (1 : Int32)).bind fun g53 =>
  (zrdR g53 x0 11 3).bind fun v54 =>
  (zast 20 g53 v54 (2 : Int32) (1 : Int32)).bind fun g55 =>
  (zrdR g55 x0 11 3).bind fun v56 =>
  (zast 20 g55 v56 (3 : Int32) (1 : Int32)).bind fun g57 =>
  (zrdR g57 x0 11 3).bind fun v58 =>
  (zast 20 g57 v58 (4 : Int32) (1 : Int32)).bind fun g59 =>
  (zrdR g59 x0 11 3).bind fun v60 =>
  (zast 20 g59 v60 (5 : Int32) (1 : Int32)).bind fun g61 =>
  (zrdR g61 x0 11 3).bind fun v62 =>
  (zast 20 g61 v62 (6 : Int32) (1 : Int32)).bind fun g63 =>
  (zrdR g63 x0 11 3).bind fun v64 =>
  (zast 20 g63 v64 (7 : Int32) (1 : Int32)).bind fun g65 =>
  (zrdR g65 x0 11 9).bind fun v66 =>
  (zalloc g65 (6, 0)).bind fun p67 =>
  (f_X6_init p67.1 p67.2).bind fun g68 =>
  (zaast 26 g68 v66 (0 : Int32) p67.1).bind fun g69 =>
  (zrdR g69 x0 11 9).bind fun v70 =>
  (zalloc g69 (6, 0)).bind fun p71 =>
  (f_X6_init p71.1 p71.2).bind fun g72 =>
  (zaast 26 g72 v70 (1 : Int32) p71.1).bind fun g73 =>
  some g73

def f_X0_copyFrom (x0 : Nat) (x1 : Nat)  (g : ZS) : Option ZS :=
  (zrdR g x1 0 0).bind fun v1 =>
  (zrdR g x0 0 0).bind fun v2 =>
  (zcopy g v1 v2 8).bind fun g3 =>
  (zrdR g3 x1 0 1).bind fun v4 =>
  (zrdR g3 x0 0 1).bind fun v5 =>
  (zcopy g3 v4 v5 8).bind fun g6 =>
  (zrdR g6 x1 0 2).bind fun v7 =>
  (zrdR g6 x0 0 2).bind fun v8 =>
  (zcopy g6 v7 v8 8).bind fun g9 =>
  (zrdR g9 x1 0 3).bind fun v10 =>
  (zrdR g9 x0 0 3).bind fun v11 =>
  (zcopy g9 v10 v11 8).bind fun g12 =>
  (zrdI g12 x1 0 4).bind fun v13 =>
  (zwrI g12 x0 0 4 v13).bind fun g14 =>
  (zrdI g14 x1 0 5).bind fun v15 =>
  (zwrI g14 x0 0 5 v15).bind fun g16 =>
  (zrdI g16 x1 0 6).bind fun v17 =>
  (zwrZ g16 x0 0 6 v17).bind fun g18 =>
  (zrdI g18 x1 0 7).bind fun v19 =>
  (zwrI g18 x0 0 7 v19).bind fun g20 =>
  (zrdI g20 x1 0 8).bind fun v21 =>
  (zwrI g20 x0 0 8 v21).bind fun g22 =>
  some g22

def f_X6_copyFrom_18 (N : Nat) (x0 : Nat) (x1 : Nat) (x2 : Int32)  (g : ZS) : Option ((Int32 × ZS) ⊕ ZS) :=
  (zrdI g x0 6 1).bind fun v1 =>
  if v1 ≤ x2 then
    (
      some g).map Sum.inr
  else
    (zrdR g x0 6 0).bind fun v2 =>
    (zaald 25 g v2 x2).bind fun v3 =>
    (zrdR g x1 6 0).bind fun v4 =>
    (zaald 25 g v4 x2).bind fun v5 =>
    zvs g v3 0 <| (f_X0_copyFrom v3 v5 g).bind fun g6 =>
    some (.inl (x2 + (1 : Int32), g6))

def f_X6_copyFrom (N : Nat) (x0 : Nat) (x1 : Nat)  (g : ZS) : Option ZS :=
  (zrdI g x1 6 1).bind fun v1 =>
  (zwrI g x0 6 1 v1).bind fun g2 =>
  (zrdI g2 x1 6 2).bind fun v3 =>
  (zwrI g2 x0 6 2 v3).bind fun g4 =>
  zloop (fun s => f_X6_copyFrom_18 N x0 x1 s.1 s.2) N ((0 : Int32), g4)

def f_X4_add_13 (N : Nat) (x0 : Nat) (x1 : Nat)  (g : ZS) : Option ZS :=
  (zrdR g x0 4 0).bind fun v1 =>
  (zrdI g x0 4 1).bind fun v2 =>
  (zaald 26 g v1 v2).bind fun v3 =>
  zvs g v3 6 <| (f_X6_copyFrom N v3 x1 g).bind fun g4 =>
  (zrdI g4 x0 4 1).bind fun v5 =>
  (zwrI g4 x0 4 1 (v5 + (1 : Int32))).bind fun g6 =>
  some g6

def f_X4_add (N : Nat) (x0 : Nat) (x1 : Nat)  (g : ZS) : Option ZS :=
  (zrdI g x0 4 1).bind fun v1 =>
  if v1 < (12 : Int32) then
    f_X4_add_13 N x0 x1 g
  else
    zvs g x0 4 <| (f_X4_dropOldest N x0 g).bind fun g2 =>
    f_X4_add_13 N x0 x1 g2

def f_X11_days_10 (N : Nat)   (g : ZS) : Option (Int32 × ZS) :=
  some ((-1 : Int32), g)

def f_X11_days_58 (N : Nat) (x0 : Nat) (x2 : Int32)  (g : ZS) : Option ((Int32 × ZS) ⊕ (Int32 × ZS)) :=
  (zrdR g x0 11 6).bind fun v1 =>
  (zrdI g v1 6 1).bind fun v2 =>
  if v2 ≤ x2 then
    (
      (zrdR g x0 11 6).bind fun v3 =>
      (zrdI g v3 6 2).bind fun v4 =>
      some (v4, g)).map Sum.inr
  else
    (zrdR g x0 11 1).bind fun v5 =>
    (zrdR g x0 11 6).bind fun v6 =>
    (zrdR g v6 6 0).bind fun v7 =>
    (zaald 25 g v7 x2).bind fun v8 =>
    zvs g v8 0 <| (f_X0_known N v8 g).bind fun v9 =>
    (zrdR g x0 11 7).bind fun v10 =>
    (zrdR g v10 6 0).bind fun v11 =>
    (zaald 25 g v11 x2).bind fun v12 =>
    zvs g v12 0 <| (f_X0_known N v12 g).bind fun v13 =>
    (f_J6_bitCount_0f7a4 (v9 &&& (v13 ^^^ (-1 : Int32)))).bind fun v14 =>
    zvs g v5 9 <| (f_X9_add v5 v14.toInt64 g).bind fun g15 =>
    some (.inl (x2 + (1 : Int32), g15))

def f_X11_days_48 (N : Nat) (x0 : Nat)  (g : ZS) : Option (Int32 × ZS) :=
  (zrdR g x0 11 1).bind fun v1 =>
  (zwrI g v1 9 1 (0 : Int32)).bind fun g2 =>
  zloop (fun s => f_X11_days_58 N x0 s.1 s.2) N ((0 : Int32), g2)

def f_X11_days (N : Nat) (x0 : Nat) (x1 : Int32)  (g : ZS) : Option (Int32 × ZS) :=
  if x1 < 0 then
    f_X11_days_10 N g
  else
    if x1 ≤ (60 : Int32) then
      (zrdR g x0 11 7).bind fun v1 =>
      (zrdR g x0 11 6).bind fun v2 =>
      zvs g v1 6 <| (f_X6_copyFrom N v1 v2 g).bind fun g3 =>
      (zrdR g3 x0 11 6).bind fun v4 =>
      zvs g3 x0 11 <| (f_X11_passDays N x0 v4 x1 g3).bind fun r5 =>
      if x1 ≤ 0 then
        f_X11_days_48 N x0 r5.2
      else
        (zrdR r5.2 x0 11 8).bind fun v6 =>
        (zrdR r5.2 x0 11 7).bind fun v7 =>
        zvs r5.2 v6 4 <| (f_X4_add N v6 v7 r5.2).bind fun g8 =>
        f_X11_days_48 N x0 g8
    else
      f_X11_days_10 N g

def f_X11_remembered_15 (N : Nat) (x1 : Int32)  (g : ZS) : Option (Int32 × ZS) :=
  some (x1, g)

def f_X11_remembered (N : Nat) (x0 : Nat) (x1 : Int32)  (g : ZS) : Option (Int32 × ZS) :=
  if x1 < 0 then
    f_X11_remembered_15 N x1 g
  else
    (zrdR g x0 11 8).bind fun v1 =>
    (zrdR g x0 11 7).bind fun v2 =>
    zvs g v1 4 <| (f_X4_add N v1 v2 g).bind fun g3 =>
    f_X11_remembered_15 N x1 g3

def f_X11_move (N : Nat) (x0 : Nat) (x1 : Int32) (x2 : Int32)  (g : ZS) : Option (Int32 × ZS) :=
  (zrdR g x0 11 7).bind fun v1 =>
  (zrdR g x0 11 6).bind fun v2 =>
  zvs g v1 6 <| (f_X6_copyFrom N v1 v2 g).bind fun g3 =>
  (zrdR g3 x0 11 6).bind fun v4 =>
  (f_X11_bring v4 x1 x2 g3).bind fun r5 =>
  zvs r5.2 x0 11 <| (f_X11_remembered N x0 r5.1 r5.2).bind fun r6 =>
  some (r6.1, r6.2)

def f_X11_cloth (N : Nat) (x0 : Nat) (x1 : Int32)  (g : ZS) : Option (Int32 × ZS) :=
  (zrdR g x0 11 7).bind fun v1 =>
  (zrdR g x0 11 6).bind fun v2 =>
  zvs g v1 6 <| (f_X6_copyFrom N v1 v2 g).bind fun g3 =>
  zvs g3 x0 11 <| (f_X11_cover N x0 x1 g3).bind fun r4 =>
  zvs r4.2 x0 11 <| (f_X11_remembered N x0 r4.1 r4.2).bind fun r5 =>
  some (r5.1, r5.2)

def f_X11_teach (N : Nat) (x0 : Nat) (x1 : Int32) (x2 : Int32)  (g : ZS) : Option (Int32 × ZS) :=
  (zrdR g x0 11 7).bind fun v1 =>
  (zrdR g x0 11 6).bind fun v2 =>
  zvs g v1 6 <| (f_X6_copyFrom N v1 v2 g).bind fun g3 =>
  (zrdR g3 x0 11 6).bind fun v4 =>
  (f_X11_feed v4 x1 x2 g3).bind fun r5 =>
  zvs r5.2 x0 11 <| (f_X11_remembered N x0 r5.1 r5.2).bind fun r6 =>
  some (r6.1, r6.2)

def f_X11_speak (N : Nat) (x0 : Nat) (x1 : Int32)  (g : ZS) : Option (Int32 × ZS) :=
  (zrdR g x0 11 7).bind fun v1 =>
  (zrdR g x0 11 6).bind fun v2 =>
  zvs g v1 6 <| (f_X6_copyFrom N v1 v2 g).bind fun g3 =>
  (zrdR g3 x0 11 6).bind fun v4 =>
  zvs g3 x0 11 <| (f_X11_utter N x0 v4 x1 g3).bind fun r5 =>
  zvs r5.2 x0 11 <| (f_X11_remembered N x0 r5.1 r5.2).bind fun r6 =>
  some (r6.1, r6.2)

def f_X11_hush_31 (N : Nat) (x1 : Int32)  (g : ZS) : Option (Int32 × ZS) :=
  some (x1, g)

def f_X11_hush (N : Nat) (x0 : Nat)  (g : ZS) : Option (Int32 × ZS) :=
  (zrdR g x0 11 7).bind fun v1 =>
  (zrdR g x0 11 6).bind fun v2 =>
  zvs g v1 6 <| (f_X6_copyFrom N v1 v2 g).bind fun g3 =>
  zvs g3 x0 11 <| (f_X11_silence N x0 g3).bind fun r4 =>
  if r4.1 ≤ 0 then
    f_X11_hush_31 N r4.1 r4.2
  else
    (zrdR r4.2 x0 11 8).bind fun v5 =>
    (zrdR r4.2 x0 11 7).bind fun v6 =>
    zvs r4.2 v5 4 <| (f_X4_add N v5 v6 r4.2).bind fun g7 =>
    f_X11_hush_31 N r4.1 g7

def f_X11_holdTrial_48 (N : Nat) (x0 : Nat) (x1 : Int32) (x2 : Int32) (x3 : Int32)  (g : ZS) : Option ((Int32 × Int32 × Int32 × ZS) ⊕ (Int32 × ZS)) :=
  (zrdR g x0 11 0).bind fun v1 =>
  zvs g v1 8 <| (f_X8_at v1 x3 g).bind fun v2 =>
  (f_X11_signsBehind v2).bind fun v3 =>
  (f_J9_max_7cf53 (0 : Int32) v3).bind fun v4 =>
  some (.inl (x1, x2, x3 + ((1 : Int32) + v4), g))

def f_X11_holdTrial_99 (N : Nat) (x0 : Nat) (x1 : Int32) (s0 : Nat) (s1 : Int64) (g : ZS) : Option (Int32 × ZS) :=
  (zrdR g x0 11 6).bind fun v1 =>
  (zrdI g v1 6 2).bind fun v2 =>
  zvs g s0 9 <| (f_X9_pair s0 s1 v2.toInt64 g).bind fun g3 =>
  some (x1, g3)

def f_X11_holdTrial_86 (N : Nat) (x0 : Nat) (x1 : Int32) (x2 : Int32)  (g : ZS) : Option (Int32 × ZS) :=
  (zrdR g x0 11 1).bind fun v1 =>
  if x2 = 0 then
    f_X11_holdTrial_99 N x0 x1 v1 (0 : Int64) g
  else
    f_X11_holdTrial_99 N x0 x1 v1 (1 : Int64) g

def f_X11_holdTrial_71 (N : Nat) (x0 : Nat) (x1 : Int32) (x2 : Int32)  (g : ZS) : Option (Int32 × ZS) :=
  if x1 ≤ 0 then
    f_X11_holdTrial_86 N x0 x1 x2 g
  else
    (zrdR g x0 11 8).bind fun v1 =>
    (zrdR g x0 11 7).bind fun v2 =>
    zvs g v1 4 <| (f_X4_add N v1 v2 g).bind fun g3 =>
    f_X11_holdTrial_86 N x0 x1 x2 g3

def f_X11_holdTrial_17 (N : Nat) (x0 : Nat) (x1 : Int32) (x2 : Int32) (x3 : Int32)  (g : ZS) : Option ((Int32 × Int32 × Int32 × ZS) ⊕ (Int32 × ZS)) :=
  (zrdR g x0 11 0).bind fun v1 =>
  (zrdI g v1 8 1).bind fun v2 =>
  if v2 ≤ x3 then
    (
    f_X11_holdTrial_71 N x0 x1 x2 g).map Sum.inr
  else
    if x2 = 0 then
      zvs g x0 11 <| (f_X11_actAt N x0 x3 g).bind fun r3 =>
      if 0 ≤ r3.1 then
        f_X11_holdTrial_48 N x0 (x1 + (1 : Int32)) x2 x3 r3.2
      else
        f_X11_holdTrial_48 N x0 x1 (1 : Int32) x3 r3.2
    else
      (
      f_X11_holdTrial_71 N x0 x1 x2 g).map Sum.inr

def f_X11_holdTrial (N : Nat) (x0 : Nat)  (g : ZS) : Option (Int32 × ZS) :=
  (zrdR g x0 11 7).bind fun v1 =>
  (zrdR g x0 11 6).bind fun v2 =>
  zvs g v1 6 <| (f_X6_copyFrom N v1 v2 g).bind fun g3 =>
  zloop (fun s => f_X11_holdTrial_17 N x0 s.1 s.2.1 s.2.2.1 s.2.2.2) N ((0 : Int32), (0 : Int32), (0 : Int32), g3)

def f_X11_trial_20 (N : Nat) (x0 : Nat) (s0 : Int32) (g : ZS) : Option (Int32 × ZS) :=
  (zrdR g x0 11 0).bind fun v1 =>
  (zwrI g v1 8 1 (0 : Int32)).bind fun g2 =>
  some (s0, g2)

def f_X11_trial (N : Nat) (x0 : Nat)  (g : ZS) : Option (Int32 × ZS) :=
  zvs g x0 11 <| (f_X11_badInTrial N x0 g).bind fun v1 =>
  if v1 = (-1 : Int32) then
    zvs g x0 11 <| (f_X11_holdTrial N x0 g).bind fun r2 =>
    f_X11_trial_20 N x0 r2.1 r2.2
  else
    f_X11_trial_20 N x0 ((-1 : Int32) - v1) g

def f_X4_bringBack (N : Nat) (x0 : Nat) (x1 : Nat)  (g : ZS) : Option (Int32 × ZS) :=
  (zrdI g x0 4 1).bind fun v1 =>
  if 0 < v1 then
    (zrdI g x0 4 1).bind fun v2 =>
    (zwrI g x0 4 1 (v2 - (1 : Int32))).bind fun g3 =>
    (zrdR g3 x0 4 0).bind fun v4 =>
    (zrdI g3 x0 4 1).bind fun v5 =>
    (zaald 26 g3 v4 v5).bind fun v6 =>
    zvs g3 x1 6 <| (f_X6_copyFrom N x1 v6 g3).bind fun g7 =>
    some ((1 : Int32), g7)
  else
    some ((0 : Int32), g)

def f_X11_undo_25 (N : Nat)  (s0 : Int32) (g : ZS) : Option (Int32 × ZS) :=
  some (s0, g)

def f_X11_undo (N : Nat) (x0 : Nat)  (g : ZS) : Option (Int32 × ZS) :=
  (zrdR g x0 11 8).bind fun v1 =>
  (zrdR g x0 11 6).bind fun v2 =>
  zvs g v1 4 <| (f_X4_bringBack N v1 v2 g).bind fun r3 =>
  if r3.1 = 0 then
    f_X11_undo_25 N (-1 : Int32) r3.2
  else
    (zrdR r3.2 x0 11 8).bind fun v4 =>
    (zrdI r3.2 v4 4 1).bind fun v5 =>
    f_X11_undo_25 N v5 r3.2

def f_X11_later_18 (N : Nat)   (g : ZS) : Option (Int32 × ZS) :=
  some ((-1 : Int32), g)

def f_X11_later_38 (N : Nat) (x0 : Nat) (x2 : Int32) (x3 : Int32)  (g : ZS) : Option ((Int32 × ZS) ⊕ (Int32 × ZS)) :=
  if x2 ≤ x3 then
    (
      (zrdR g x0 11 12).bind fun v1 =>
      (zrdR g x0 11 11).bind fun v2 =>
      (zrdR g x0 11 4).bind fun v3 =>
      (zrdR g x0 11 3).bind fun v4 =>
      zvs g v1 10 <| (f_X10_follow N v1 v2 v3 v4 g).bind fun g5 =>
      zvs g5 x0 11 <| (f_X11_tellWords N x0 g5).bind fun r6 =>
      some (r6.1, r6.2)).map Sum.inr
  else
    (zrdR g x0 11 11).bind fun v7 =>
    (zrdR g x0 11 6).bind fun v8 =>
    (zrdI g v8 6 2).bind fun v9 =>
    zvs g x0 11 <| (f_X11_listenOn x0 v7 (v9 + x3) g).bind fun g10 =>
    some (.inl (x3 + (1 : Int32), g10))

def f_X11_later (N : Nat) (x0 : Nat) (x1 : Int32) (x2 : Int32)  (g : ZS) : Option (Int32 × ZS) :=
  zvs g x0 11 <| (f_X11_isParrot x0 x1 g).bind fun v1 =>
  if v1 = 0 then
    f_X11_later_18 N g
  else
    if x2 < 0 then
      f_X11_later_18 N g
    else
      if x2 ≤ (60 : Int32) then
        (zrdR g x0 11 11).bind fun v2 =>
        (zrdR g x0 11 6).bind fun v3 =>
        (zrdR g v3 6 0).bind fun v4 =>
        (zaald 25 g v4 x1).bind fun v5 =>
        zvs g v2 0 <| (f_X0_copyFrom v2 v5 g).bind fun g6 =>
        zloop (fun s => f_X11_later_38 N x0 x2 s.1 s.2) N ((0 : Int32), g6)
      else
        f_X11_later_18 N g

def f_X11_alters_52 (N : Nat) (x0 : Nat) (x2 : Int32)  (g : ZS) : Option ((Int32 × ZS) ⊕ (Int32 × ZS)) :=
  if (60 : Int32) < x2 then
    (
      some ((-2 : Int32), g)).map Sum.inr
  else
    (zrdR g x0 11 11).bind fun v1 =>
    (zrdR g x0 11 6).bind fun v2 =>
    (zrdI g v2 6 2).bind fun v3 =>
    zvs g x0 11 <| (f_X11_listenOn x0 v1 ((v3 + x2) - (1 : Int32)) g).bind fun g4 =>
    (zrdR g4 x0 11 13).bind fun v5 =>
    (zrdR g4 x0 11 11).bind fun v6 =>
    (zrdR g4 x0 11 4).bind fun v7 =>
    (zrdR g4 x0 11 3).bind fun v8 =>
    zvs g4 v5 10 <| (f_X10_follow N v5 v6 v7 v8 g4).bind fun g9 =>
    (zrdR g9 x0 11 12).bind fun v10 =>
    (zrdR g9 x0 11 13).bind fun v11 =>
    zvs g9 v10 10 <| (f_X10_differsAt N v10 v11 g9).bind fun v12 =>
    if v12 = (-1 : Int32) then
      some (.inl (x2 + (1 : Int32), g9))
    else
      (
        (zrdR g9 x0 11 1).bind fun v13 =>
        (zrdR g9 x0 11 13).bind fun v14 =>
        zvs g9 v14 10 <| (f_X10_at v14 v12 g9).bind fun v15 =>
        zvs g9 v13 9 <| (f_X9_pair v13 v12.toInt64 v15.toInt64 g9).bind fun g16 =>
        some (x2, g16)).map Sum.inr

def f_X11_alters (N : Nat) (x0 : Nat) (x1 : Int32)  (g : ZS) : Option (Int32 × ZS) :=
  zvs g x0 11 <| (f_X11_isParrot x0 x1 g).bind fun v1 =>
  if v1 = 0 then
    some ((-1 : Int32), g)
  else
    (zrdR g x0 11 12).bind fun v2 =>
    (zrdR g x0 11 6).bind fun v3 =>
    (zrdR g v3 6 0).bind fun v4 =>
    (zaald 25 g v4 x1).bind fun v5 =>
    (zrdR g x0 11 4).bind fun v6 =>
    (zrdR g x0 11 3).bind fun v7 =>
    zvs g v2 10 <| (f_X10_follow N v2 v5 v6 v7 g).bind fun g8 =>
    (zrdR g8 x0 11 11).bind fun v9 =>
    (zrdR g8 x0 11 6).bind fun v10 =>
    (zrdR g8 v10 6 0).bind fun v11 =>
    (zaald 25 g8 v11 x1).bind fun v12 =>
    zvs g8 v9 0 <| (f_X0_copyFrom v9 v12 g8).bind fun g13 =>
    zloop (fun s => f_X11_alters_52 N x0 s.1 s.2) N ((1 : Int32), g13)

def f_X11_crackers_15 (N : Nat)   (g : ZS) : Option (Int32 × ZS) :=
  some ((-1 : Int32), g)

def f_X11_crackers_50 (N : Nat) (x0 : Nat) (x2 : Int32) (x3 : Int32)  (g : ZS) : Option ((Int32 × ZS) ⊕ (Int32 × ZS)) :=
  if (40 : Int32) < x3 then
    (
      some ((-2 : Int32), g)).map Sum.inr
  else
    (zrdR g x0 11 12).bind fun v1 =>
    (zrdR g x0 11 11).bind fun v2 =>
    (zrdR g x0 11 4).bind fun v3 =>
    (zrdR g x0 11 3).bind fun v4 =>
    zvs g v1 10 <| (f_X10_follow N v1 v2 v3 v4 g).bind fun g5 =>
    (zrdR g5 x0 11 12).bind fun v6 =>
    zvs g5 v6 10 <| (f_X10_at v6 (0 : Int32) g5).bind fun v7 =>
    if v7 = x2 then
      (
        some (x3, g5)).map Sum.inr
    else
      (zrdR g5 x0 11 11).bind fun v8 =>
      (zrdR g5 v8 0 3).bind fun v9 =>
      (zrdR g5 x0 11 11).bind fun v10 =>
      (zrdR g5 v10 0 3).bind fun v11 =>
      (zald 20 g5 v11 x2).bind fun v12 =>
      (f_J9_min_7cf53 (99 : Int32) (v12 + (1 : Int32))).bind fun v13 =>
      (zast 20 g5 v9 x2 v13).bind fun g14 =>
      some (.inl (x3 + (1 : Int32), g14))

def f_X11_crackers (N : Nat) (x0 : Nat) (x1 : Int32) (x2 : Int32)  (g : ZS) : Option (Int32 × ZS) :=
  zvs g x0 11 <| (f_X11_isParrot x0 x1 g).bind fun v1 =>
  if v1 = 0 then
    f_X11_crackers_15 N g
  else
    (f_X11_isWord x2).bind fun v2 =>
    if v2 = 0 then
      f_X11_crackers_15 N g
    else
      (zrdR g x0 11 11).bind fun v3 =>
      (zrdR g x0 11 6).bind fun v4 =>
      (zrdR g v4 6 0).bind fun v5 =>
      (zaald 25 g v5 x1).bind fun v6 =>
      zvs g v3 0 <| (f_X0_copyFrom v3 v6 g).bind fun g7 =>
      (zrdR g7 x0 11 11).bind fun v8 =>
      (zrdR g7 v8 0 0).bind fun v9 =>
      (zald 20 g7 v9 x2).bind fun v10 =>
      if v10 = 0 then
        some ((-2 : Int32), g7)
      else
        zloop (fun s => f_X11_crackers_50 N x0 x2 s.1 s.2) N ((0 : Int32), g7)

def f_X11_stay_22 (N : Nat)   (g : ZS) : Option (Int32 × ZS) :=
  some ((-1 : Int32), g)

def f_X11_stay_59 (N : Nat) (x0 : Nat) (x3 : Int32) (x4 : Int32)  (g : ZS) : Option ((Int32 × ZS) ⊕ (Int32 × ZS)) :=
  if (60 : Int32) < x4 then
    (
      some ((-2 : Int32), g)).map Sum.inr
  else
    (zrdR g x0 11 12).bind fun v1 =>
    (zrdR g x0 11 11).bind fun v2 =>
    (zrdR g x0 11 4).bind fun v3 =>
    (zrdR g x0 11 3).bind fun v4 =>
    zvs g v1 10 <| (f_X10_follow N v1 v2 v3 v4 g).bind fun g5 =>
    (zrdR g5 x0 11 12).bind fun v6 =>
    zvs g5 v6 10 <| (f_X10_at v6 (0 : Int32) g5).bind fun v7 =>
    if v7 = x3 then
      (
        some (x4, g5)).map Sum.inr
    else
      (zrdR g5 x0 11 11).bind fun v8 =>
      (zrdR g5 x0 11 6).bind fun v9 =>
      (zrdI g5 v9 6 2).bind fun v10 =>
      zvs g5 x0 11 <| (f_X11_listenOn x0 v8 (v10 + x4) g5).bind fun g11 =>
      some (.inl (x4 + (1 : Int32), g11))

def f_X11_stay (N : Nat) (x0 : Nat) (x1 : Int32) (x2 : Int32) (x3 : Int32)  (g : ZS) : Option (Int32 × ZS) :=
  zvs g x0 11 <| (f_X11_isParrot x0 x1 g).bind fun v1 =>
  if v1 = 0 then
    f_X11_stay_22 N g
  else
    (f_X11_isHouse x2).bind fun v2 =>
    if v2 = 0 then
      f_X11_stay_22 N g
    else
      (f_X11_isWord x3).bind fun v3 =>
      if v3 = 0 then
        f_X11_stay_22 N g
      else
        (zrdR g x0 11 11).bind fun v4 =>
        (zrdR g x0 11 6).bind fun v5 =>
        (zrdR g v5 6 0).bind fun v6 =>
        (zaald 25 g v6 x1).bind fun v7 =>
        zvs g v4 0 <| (f_X0_copyFrom v4 v7 g).bind fun g8 =>
        (zrdR g8 x0 11 11).bind fun v9 =>
        (zwrI g8 v9 0 4 x2).bind fun g10 =>
        (zrdR g10 x0 11 11).bind fun v11 =>
        (zwrZ g10 v11 0 6 (0 : Int32)).bind fun g12 =>
        zloop (fun s => f_X11_stay_59 N x0 x3 s.1 s.2) N ((0 : Int32), g12)

def f_X11_years_11 (N : Nat)   (g : ZS) : Option (Int32 × ZS) :=
  some ((-1 : Int32), g)

def f_X11_years_56 (N : Nat) (x0 : Nat) (x2 : Int32) (x3 : Nat) (x4 : Int32) (x5 : Int32)  (g : ZS) : Option ((Int32 × Int32 × ZS) ⊕ (Int32 × ZS)) :=
  some (.inl (x4, x5 + (1 : Int32), g))

def f_X11_years_39 (N : Nat) (x0 : Nat) (x2 : Int32) (x3 : Nat) (x4 : Int32) (x5 : Int32)  (g : ZS) : Option ((Int32 × Int32 × ZS) ⊕ (Int32 × ZS)) :=
  if x2 ≤ x5 then
    (
      (zrdR g x0 11 1).bind fun v1 =>
      (zrdR g x0 11 7).bind fun v2 =>
      zvs g v2 6 <| (f_X6_heard N v2 g).bind fun v3 =>
      (zrdR g x0 11 7).bind fun v4 =>
      zvs g v4 6 <| (f_X6_known N v4 g).bind fun v5 =>
      zvs g v1 9 <| (f_X9_pair v1 v3.toInt64 v5.toInt64 g).bind fun g6 =>
      some (x4, g6)).map Sum.inr
  else
    zvs g x0 11 <| (f_X11_drawAct N x0 x3 g).bind fun r7 =>
    if r7.1 = 0 then
      f_X11_years_56 N x0 x2 x3 x4 x5 r7.2
    else
      f_X11_years_56 N x0 x2 x3 (x4 + (1 : Int32)) x5 r7.2

def f_X11_years (N : Nat) (x0 : Nat) (x1 : Int32) (x2 : Int32)  (g : ZS) : Option (Int32 × ZS) :=
  if x2 < (1 : Int32) then
    f_X11_years_11 N g
  else
    if x2 ≤ (60 : Int32) then
      (zrdR g x0 11 7).bind fun v1 =>
      (zrdR g x0 11 6).bind fun v2 =>
      zvs g v1 6 <| (f_X6_copyFrom N v1 v2 g).bind fun g3 =>
      (zalloc g3 (1, 0)).bind fun p4 =>
      (f_X1_init p4.1 x1 p4.2).bind fun g5 =>
      zloop (fun s => f_X11_years_39 N x0 x2 p4.1 s.1 s.2.1 s.2.2) N ((0 : Int32), (0 : Int32), g5)
    else
      f_X11_years_11 N g

def f_X11_keep_9 (N : Nat)   (g : ZS) : Option (Int32 × ZS) :=
  some ((0 : Int32), g)

def f_X11_keep (N : Nat) (x0 : Nat) (x1 : Int32)  (g : ZS) : Option (Int32 × ZS) :=
  if x1 < 0 then
    f_X11_keep_9 N g
  else
    if x1 < (2 : Int32) then
      (zrdR g x0 11 9).bind fun v1 =>
      (zaald 26 g v1 x1).bind fun v2 =>
      (zrdR g x0 11 6).bind fun v3 =>
      zvs g v2 6 <| (f_X6_copyFrom N v2 v3 g).bind fun g4 =>
      (zrdR g4 x0 11 10).bind fun v5 =>
      (zast 22 g4 v5 x1 (1 : Int32)).bind fun g6 =>
      some ((1 : Int32), g6)
    else
      f_X11_keep_9 N g

def f_X11_again_37 (N : Nat)   (g : ZS) : Option (Int32 × ZS) :=
  some ((0 : Int32), g)

def f_X11_again (N : Nat) (x0 : Nat) (x1 : Int32)  (g : ZS) : Option (Int32 × ZS) :=
  if x1 < 0 then
    f_X11_again_37 N g
  else
    if (2 : Int32) ≤ x1 then
      f_X11_again_37 N g
    else
      (zrdR g x0 11 10).bind fun v1 =>
      (zald 22 g v1 x1).bind fun v2 =>
      if v2 = 0 then
        f_X11_again_37 N g
      else
        (zrdR g x0 11 9).bind fun v3 =>
        (zaald 26 g v3 x1).bind fun v4 =>
        (zrdI g v4 6 1).bind fun v5 =>
        (zrdR g x0 11 6).bind fun v6 =>
        (zrdI g v6 6 1).bind fun v7 =>
        if v5 = v7 then
          (zrdR g x0 11 6).bind fun v8 =>
          (zrdR g x0 11 9).bind fun v9 =>
          (zaald 26 g v9 x1).bind fun v10 =>
          zvs g v8 6 <| (f_X6_copyFrom N v8 v10 g).bind fun g11 =>
          (zrdR g11 x0 11 8).bind fun v12 =>
          (zwrI g11 v12 4 1 (0 : Int32)).bind fun g13 =>
          some ((1 : Int32), g13)
        else
          f_X11_again_37 N g

theorem j_X2_init {X : ZX} (x0 : Nat)   (g : ZS) {K : ZS → Prop} (h0 : ∀ g, K g → xK X none g) : J Y_X2_init X 0 0 0 [some (.ref x0), none] [] g (f_X2_init x0 g) K := by
  unfold f_X2_init
  refine J_aload_n rfl rfl (show Dc Y_X2_init 0 (.aload_n 0) 1 1 from ⟨by decide +kernel, rfl⟩) ?_
  refine J_objI (show Dc Y_X2_init 1 (.invokespecial 3) 3 4 from ⟨by decide +kernel, rfl⟩) w_m_RX2_3 w_oi w_oc (by decide) (Nat.le_of_ble_eq_true rfl) ?_
  refine J_aload_n rfl rfl (show Dc Y_X2_init 4 (.aload_n 0) 1 5 from ⟨by decide +kernel, rfl⟩) ?_
  refine J_iconst (4 : Int32) rfl (show Dc Y_X2_init 5 (.iconst 4) 1 6 from ⟨by decide +kernel, rfl⟩) ?_
  refine J_bipush (16 : Int32) rfl (show Dc Y_X2_init 6 (.bipush 16) 2 8 from ⟨by decide +kernel, rfl⟩) ?_
  refine J_mnewa (n := 4) (k0 := 16) (show Dc Y_X2_init 8 (.multianewarray 9 2) 4 12 from ⟨by decide +kernel, rfl⟩) w_c_RX2_9 w_ac20 (by decide) (by decide) rfl rfl (by decide) (by decide) (by decide) (by decide) (fun p1 => ?_)
  refine J_putR (show Dc Y_X2_init 12 (.putfield 11) 3 15 from ⟨by decide +kernel, rfl⟩) w_f_RX2_11 rfl (Or.inl rfl) (fun g2 => ?_) (fun _ => rfl)
  refine J_aload_n rfl rfl (show Dc Y_X2_init 15 (.aload_n 0) 1 16 from ⟨by decide +kernel, rfl⟩) ?_
  refine J_iconst (4 : Int32) rfl (show Dc Y_X2_init 16 (.iconst 4) 1 17 from ⟨by decide +kernel, rfl⟩) ?_
  refine J_newa (kd := 20) (n := 4) (show Dc Y_X2_init 17 (.newarray .int) 2 19 from ⟨by decide +kernel, rfl⟩) (by decide) (by decide) rfl w_ac20 (by decide) rfl (by decide) (by decide) (by decide) (fun p3 => ?_)
  refine J_putR (show Dc Y_X2_init 19 (.putfield 16) 3 22 from ⟨by decide +kernel, rfl⟩) w_f_RX2_16 rfl (Or.inl rfl) (fun g4 => ?_) (fun _ => rfl)
  refine J_iconst (0 : Int32) rfl (show Dc Y_X2_init 22 (.iconst 0) 1 23 from ⟨by decide +kernel, rfl⟩) ?_
  refine J_istore_n [some (.ref x0), some (.int (0 : Int32))] (show Dc Y_X2_init 23 (.istore_n 1) 1 24 from ⟨by decide +kernel, rfl⟩) rfl (by decide) rfl rfl ?_
  refine J_iload_n rfl rfl (show Dc Y_X2_init 24 (.iload_n 1) 1 25 from ⟨by decide +kernel, rfl⟩) ?_
  refine J_iconst (4 : Int32) rfl (show Dc Y_X2_init 25 (.iconst 4) 1 26 from ⟨by decide +kernel, rfl⟩) ?_
  refine J_ifF (c := (4 : Int32) ≤ (0 : Int32)) (t1 := none) (by decide) ?_
  refine J_icmp_ge (tg := 42) (show Dc Y_X2_init 26 (.if_icmp .ge 16) 3 29 from ⟨by decide +kernel, rfl⟩) (by decide) (fun h => absurd h (by decide)) (fun _ => ?_)
  refine J_aload_n rfl rfl (show Dc Y_X2_init 29 (.aload_n 0) 1 30 from ⟨by decide +kernel, rfl⟩) ?_
  refine J_getR (show Dc Y_X2_init 30 (.getfield 16) 3 33 from ⟨by decide +kernel, rfl⟩) w_f_RX2_16 rfl (fun v5 => ?_)
  refine J_iload_n rfl rfl (show Dc Y_X2_init 33 (.iload_n 1) 1 34 from ⟨by decide +kernel, rfl⟩) ?_
  refine J_iconst (1 : Int32) rfl (show Dc Y_X2_init 34 (.iconst 1) 1 35 from ⟨by decide +kernel, rfl⟩) ?_
  refine J_iast (show Dc Y_X2_init 35 (.iastore) 1 36 from ⟨by decide +kernel, rfl⟩) (fun g6 => ?_)
  refine J_iinc (1 : Int32) [some (.ref x0), some (.int (1 : Int32))] (show Dc Y_X2_init 36 (.iinc 1 1) 3 39 from ⟨by decide +kernel, rfl⟩) rfl rfl (by decide) rfl rfl ?_
  refine J_goto (tg := 24) (show Dc Y_X2_init 39 (.goto (-15)) 3 42 from ⟨by decide +kernel, rfl⟩) (by decide) ?_
  refine J_iload_n rfl rfl (show Dc Y_X2_init 24 (.iload_n 1) 1 25 from ⟨by decide +kernel, rfl⟩) ?_
  refine J_iconst (4 : Int32) rfl (show Dc Y_X2_init 25 (.iconst 4) 1 26 from ⟨by decide +kernel, rfl⟩) ?_
  refine J_ifF (c := (4 : Int32) ≤ (1 : Int32)) (t1 := none) (by decide) ?_
  refine J_icmp_ge (tg := 42) (show Dc Y_X2_init 26 (.if_icmp .ge 16) 3 29 from ⟨by decide +kernel, rfl⟩) (by decide) (fun h => absurd h (by decide)) (fun _ => ?_)
  refine J_aload_n rfl rfl (show Dc Y_X2_init 29 (.aload_n 0) 1 30 from ⟨by decide +kernel, rfl⟩) ?_
  refine J_getR (show Dc Y_X2_init 30 (.getfield 16) 3 33 from ⟨by decide +kernel, rfl⟩) w_f_RX2_16 rfl (fun v7 => ?_)
  refine J_iload_n rfl rfl (show Dc Y_X2_init 33 (.iload_n 1) 1 34 from ⟨by decide +kernel, rfl⟩) ?_
  refine J_iconst (1 : Int32) rfl (show Dc Y_X2_init 34 (.iconst 1) 1 35 from ⟨by decide +kernel, rfl⟩) ?_
  refine J_iast (show Dc Y_X2_init 35 (.iastore) 1 36 from ⟨by decide +kernel, rfl⟩) (fun g8 => ?_)
  refine J_iinc (1 : Int32) [some (.ref x0), some (.int (2 : Int32))] (show Dc Y_X2_init 36 (.iinc 1 1) 3 39 from ⟨by decide +kernel, rfl⟩) rfl rfl (by decide) rfl rfl ?_
  refine J_goto (tg := 24) (show Dc Y_X2_init 39 (.goto (-15)) 3 42 from ⟨by decide +kernel, rfl⟩) (by decide) ?_
  refine J_iload_n rfl rfl (show Dc Y_X2_init 24 (.iload_n 1) 1 25 from ⟨by decide +kernel, rfl⟩) ?_
  refine J_iconst (4 : Int32) rfl (show Dc Y_X2_init 25 (.iconst 4) 1 26 from ⟨by decide +kernel, rfl⟩) ?_
  refine J_ifF (c := (4 : Int32) ≤ (2 : Int32)) (t1 := none) (by decide) ?_
  refine J_icmp_ge (tg := 42) (show Dc Y_X2_init 26 (.if_icmp .ge 16) 3 29 from ⟨by decide +kernel, rfl⟩) (by decide) (fun h => absurd h (by decide)) (fun _ => ?_)
  refine J_aload_n rfl rfl (show Dc Y_X2_init 29 (.aload_n 0) 1 30 from ⟨by decide +kernel, rfl⟩) ?_
  refine J_getR (show Dc Y_X2_init 30 (.getfield 16) 3 33 from ⟨by decide +kernel, rfl⟩) w_f_RX2_16 rfl (fun v9 => ?_)
  refine J_iload_n rfl rfl (show Dc Y_X2_init 33 (.iload_n 1) 1 34 from ⟨by decide +kernel, rfl⟩) ?_
  refine J_iconst (1 : Int32) rfl (show Dc Y_X2_init 34 (.iconst 1) 1 35 from ⟨by decide +kernel, rfl⟩) ?_
  refine J_iast (show Dc Y_X2_init 35 (.iastore) 1 36 from ⟨by decide +kernel, rfl⟩) (fun g10 => ?_)
  refine J_iinc (1 : Int32) [some (.ref x0), some (.int (3 : Int32))] (show Dc Y_X2_init 36 (.iinc 1 1) 3 39 from ⟨by decide +kernel, rfl⟩) rfl rfl (by decide) rfl rfl ?_
  refine J_goto (tg := 24) (show Dc Y_X2_init 39 (.goto (-15)) 3 42 from ⟨by decide +kernel, rfl⟩) (by decide) ?_
  refine J_iload_n rfl rfl (show Dc Y_X2_init 24 (.iload_n 1) 1 25 from ⟨by decide +kernel, rfl⟩) ?_
  refine J_iconst (4 : Int32) rfl (show Dc Y_X2_init 25 (.iconst 4) 1 26 from ⟨by decide +kernel, rfl⟩) ?_
  refine J_ifF (c := (4 : Int32) ≤ (3 : Int32)) (t1 := none) (by decide) ?_
  refine J_icmp_ge (tg := 42) (show Dc Y_X2_init 26 (.if_icmp .ge 16) 3 29 from ⟨by decide +kernel, rfl⟩) (by decide) (fun h => absurd h (by decide)) (fun _ => ?_)
  refine J_aload_n rfl rfl (show Dc Y_X2_init 29 (.aload_n 0) 1 30 from ⟨by decide +kernel, rfl⟩) ?_
  refine J_getR (show Dc Y_X2_init 30 (.getfield 16) 3 33 from ⟨by decide +kernel, rfl⟩) w_f_RX2_16 rfl (fun v11 => ?_)
  refine J_iload_n rfl rfl (show Dc Y_X2_init 33 (.iload_n 1) 1 34 from ⟨by decide +kernel, rfl⟩) ?_
  refine J_iconst (1 : Int32) rfl (show Dc Y_X2_init 34 (.iconst 1) 1 35 from ⟨by decide +kernel, rfl⟩) ?_
  refine J_iast (show Dc Y_X2_init 35 (.iastore) 1 36 from ⟨by decide +kernel, rfl⟩) (fun g12 => ?_)
  refine J_iinc (1 : Int32) [some (.ref x0), some (.int (4 : Int32))] (show Dc Y_X2_init 36 (.iinc 1 1) 3 39 from ⟨by decide +kernel, rfl⟩) rfl rfl (by decide) rfl rfl ?_
  refine J_goto (tg := 24) (show Dc Y_X2_init 39 (.goto (-15)) 3 42 from ⟨by decide +kernel, rfl⟩) (by decide) ?_
  refine J_iload_n rfl rfl (show Dc Y_X2_init 24 (.iload_n 1) 1 25 from ⟨by decide +kernel, rfl⟩) ?_
  refine J_iconst (4 : Int32) rfl (show Dc Y_X2_init 25 (.iconst 4) 1 26 from ⟨by decide +kernel, rfl⟩) ?_
  refine J_ifT (c := (4 : Int32) ≤ (4 : Int32)) (t2 := none) (by decide) ?_
  refine J_icmp_ge (tg := 42) (show Dc Y_X2_init 26 (.if_icmp .ge 16) 3 29 from ⟨by decide +kernel, rfl⟩) (by decide) (fun _ => ?_) (fun h => absurd (by decide) h)
  exact J_ret0 (show Dc Y_X2_init 42 (.return_) 1 43 from ⟨by decide +kernel, rfl⟩) rfl (h0 _) (by decide) (by decide)

theorem c_X2_init {l : Launch} {D : ZD} {B0 : Nat} (x0 : Nat) (g : ZS) : ∀ r, f_X2_init x0 g = some r → zCt l D B0 yX2_init Y_X2_init [.ref x0] g none r :=
  zCt_ofF (vo := fun _ => none) (so := fun r => r) (by decide +kernel) rfl (fun _ => rfl) rfl (Nat.le_of_ble_eq_true rfl) (fun X => j_X2_init x0 g (fun _ h => h))

theorem j_X6_init {X : ZX} (x0 : Nat)   (g : ZS) {K : ZS → Prop} (h0 : ∀ g, K g → xK X none g) : J Y_X6_init X 0 0 0 [some (.ref x0), none] [] g (f_X6_init x0 g) K := by
  unfold f_X6_init
  refine J_aload_n rfl rfl (show Dc Y_X6_init 0 (.aload_n 0) 1 1 from ⟨by decide +kernel, rfl⟩) ?_
  refine J_objI (show Dc Y_X6_init 1 (.invokespecial 3) 3 4 from ⟨by decide +kernel, rfl⟩) w_m_RX6_3 w_oi w_oc (by decide) (Nat.le_of_ble_eq_true rfl) ?_
  refine J_aload_n rfl rfl (show Dc Y_X6_init 4 (.aload_n 0) 1 5 from ⟨by decide +kernel, rfl⟩) ?_
  refine J_bipush (6 : Int32) rfl (show Dc Y_X6_init 5 (.bipush 6) 2 7 from ⟨by decide +kernel, rfl⟩) ?_
  refine J_anewa (kd := 25) (n := 6) (show Dc Y_X6_init 7 (.anewarray 9) 3 10 from ⟨by decide +kernel, rfl⟩) (by decide) rfl w_c_RX6_9 (by decide) rfl (by decide) (by decide) (by decide) (fun p1 => ?_)
  refine J_putR (show Dc Y_X6_init 10 (.putfield 11) 3 13 from ⟨by decide +kernel, rfl⟩) w_f_RX6_11 rfl (Or.inl rfl) (fun g2 => ?_) (fun _ => rfl)
  refine J_iconst (0 : Int32) rfl (show Dc Y_X6_init 13 (.iconst 0) 1 14 from ⟨by decide +kernel, rfl⟩) ?_
  refine J_istore_n [some (.ref x0), some (.int (0 : Int32))] (show Dc Y_X6_init 14 (.istore_n 1) 1 15 from ⟨by decide +kernel, rfl⟩) rfl (by decide) rfl rfl ?_
  refine J_iload_n rfl rfl (show Dc Y_X6_init 15 (.iload_n 1) 1 16 from ⟨by decide +kernel, rfl⟩) ?_
  refine J_bipush (6 : Int32) rfl (show Dc Y_X6_init 16 (.bipush 6) 2 18 from ⟨by decide +kernel, rfl⟩) ?_
  refine J_ifF (c := (6 : Int32) ≤ (0 : Int32)) (t1 := none) (by decide) ?_
  refine J_icmp_ge (tg := 40) (show Dc Y_X6_init 18 (.if_icmp .ge 22) 3 21 from ⟨by decide +kernel, rfl⟩) (by decide) (fun h => absurd h (by decide)) (fun _ => ?_)
  refine J_aload_n rfl rfl (show Dc Y_X6_init 21 (.aload_n 0) 1 22 from ⟨by decide +kernel, rfl⟩) ?_
  refine J_getR (show Dc Y_X6_init 22 (.getfield 11) 3 25 from ⟨by decide +kernel, rfl⟩) w_f_RX6_11 rfl (fun v3 => ?_)
  refine J_iload_n rfl rfl (show Dc Y_X6_init 25 (.iload_n 1) 1 26 from ⟨by decide +kernel, rfl⟩) ?_
  refine J_new (show Dc Y_X6_init 26 (.new 9) 3 29 from ⟨by decide +kernel, rfl⟩) w_n_RX6_9 (by decide) (by decide) (fun p4 => ?_)
  refine J_dup rfl (show Dc Y_X6_init 29 (.dup) 1 30 from ⟨by decide +kernel, rfl⟩) ?_
  refine J_callIN (host := "ParrotsLast") (so := fun r => r) (show Dc Y_X6_init 30 (.invokespecial 17) 3 33 from ⟨by decide +kernel, rfl⟩) (by decide +kernel) w_in_X0_init rfl rfl w_cw_X0_init (c_X0_init p4.1 p4.2) rfl rfl (by decide) (Nat.le_of_ble_eq_true rfl) (by decide) (by decide) (fun g5 _ => ?_)
  refine J_aast (kd := 25) (by decide) (show Dc Y_X6_init 33 (.aastore) 1 34 from ⟨by decide +kernel, rfl⟩) (fun g6 => ?_)
  refine J_iinc (1 : Int32) [some (.ref x0), some (.int (1 : Int32))] (show Dc Y_X6_init 34 (.iinc 1 1) 3 37 from ⟨by decide +kernel, rfl⟩) rfl rfl (by decide) rfl rfl ?_
  refine J_goto (tg := 15) (show Dc Y_X6_init 37 (.goto (-22)) 3 40 from ⟨by decide +kernel, rfl⟩) (by decide) ?_
  refine J_iload_n rfl rfl (show Dc Y_X6_init 15 (.iload_n 1) 1 16 from ⟨by decide +kernel, rfl⟩) ?_
  refine J_bipush (6 : Int32) rfl (show Dc Y_X6_init 16 (.bipush 6) 2 18 from ⟨by decide +kernel, rfl⟩) ?_
  refine J_ifF (c := (6 : Int32) ≤ (1 : Int32)) (t1 := none) (by decide) ?_
  refine J_icmp_ge (tg := 40) (show Dc Y_X6_init 18 (.if_icmp .ge 22) 3 21 from ⟨by decide +kernel, rfl⟩) (by decide) (fun h => absurd h (by decide)) (fun _ => ?_)
  refine J_aload_n rfl rfl (show Dc Y_X6_init 21 (.aload_n 0) 1 22 from ⟨by decide +kernel, rfl⟩) ?_
  refine J_getR (show Dc Y_X6_init 22 (.getfield 11) 3 25 from ⟨by decide +kernel, rfl⟩) w_f_RX6_11 rfl (fun v7 => ?_)
  refine J_iload_n rfl rfl (show Dc Y_X6_init 25 (.iload_n 1) 1 26 from ⟨by decide +kernel, rfl⟩) ?_
  refine J_new (show Dc Y_X6_init 26 (.new 9) 3 29 from ⟨by decide +kernel, rfl⟩) w_n_RX6_9 (by decide) (by decide) (fun p8 => ?_)
  refine J_dup rfl (show Dc Y_X6_init 29 (.dup) 1 30 from ⟨by decide +kernel, rfl⟩) ?_
  refine J_callIN (host := "ParrotsLast") (so := fun r => r) (show Dc Y_X6_init 30 (.invokespecial 17) 3 33 from ⟨by decide +kernel, rfl⟩) (by decide +kernel) w_in_X0_init rfl rfl w_cw_X0_init (c_X0_init p8.1 p8.2) rfl rfl (by decide) (Nat.le_of_ble_eq_true rfl) (by decide) (by decide) (fun g9 _ => ?_)
  refine J_aast (kd := 25) (by decide) (show Dc Y_X6_init 33 (.aastore) 1 34 from ⟨by decide +kernel, rfl⟩) (fun g10 => ?_)
  refine J_iinc (1 : Int32) [some (.ref x0), some (.int (2 : Int32))] (show Dc Y_X6_init 34 (.iinc 1 1) 3 37 from ⟨by decide +kernel, rfl⟩) rfl rfl (by decide) rfl rfl ?_
  refine J_goto (tg := 15) (show Dc Y_X6_init 37 (.goto (-22)) 3 40 from ⟨by decide +kernel, rfl⟩) (by decide) ?_
  refine J_iload_n rfl rfl (show Dc Y_X6_init 15 (.iload_n 1) 1 16 from ⟨by decide +kernel, rfl⟩) ?_
  refine J_bipush (6 : Int32) rfl (show Dc Y_X6_init 16 (.bipush 6) 2 18 from ⟨by decide +kernel, rfl⟩) ?_
  refine J_ifF (c := (6 : Int32) ≤ (2 : Int32)) (t1 := none) (by decide) ?_
  refine J_icmp_ge (tg := 40) (show Dc Y_X6_init 18 (.if_icmp .ge 22) 3 21 from ⟨by decide +kernel, rfl⟩) (by decide) (fun h => absurd h (by decide)) (fun _ => ?_)
  refine J_aload_n rfl rfl (show Dc Y_X6_init 21 (.aload_n 0) 1 22 from ⟨by decide +kernel, rfl⟩) ?_
  refine J_getR (show Dc Y_X6_init 22 (.getfield 11) 3 25 from ⟨by decide +kernel, rfl⟩) w_f_RX6_11 rfl (fun v11 => ?_)
  refine J_iload_n rfl rfl (show Dc Y_X6_init 25 (.iload_n 1) 1 26 from ⟨by decide +kernel, rfl⟩) ?_
  refine J_new (show Dc Y_X6_init 26 (.new 9) 3 29 from ⟨by decide +kernel, rfl⟩) w_n_RX6_9 (by decide) (by decide) (fun p12 => ?_)
  refine J_dup rfl (show Dc Y_X6_init 29 (.dup) 1 30 from ⟨by decide +kernel, rfl⟩) ?_
  refine J_callIN (host := "ParrotsLast") (so := fun r => r) (show Dc Y_X6_init 30 (.invokespecial 17) 3 33 from ⟨by decide +kernel, rfl⟩) (by decide +kernel) w_in_X0_init rfl rfl w_cw_X0_init (c_X0_init p12.1 p12.2) rfl rfl (by decide) (Nat.le_of_ble_eq_true rfl) (by decide) (by decide) (fun g13 _ => ?_)
  refine J_aast (kd := 25) (by decide) (show Dc Y_X6_init 33 (.aastore) 1 34 from ⟨by decide +kernel, rfl⟩) (fun g14 => ?_)
  refine J_iinc (1 : Int32) [some (.ref x0), some (.int (3 : Int32))] (show Dc Y_X6_init 34 (.iinc 1 1) 3 37 from ⟨by decide +kernel, rfl⟩) rfl rfl (by decide) rfl rfl ?_
  refine J_goto (tg := 15) (show Dc Y_X6_init 37 (.goto (-22)) 3 40 from ⟨by decide +kernel, rfl⟩) (by decide) ?_
  refine J_iload_n rfl rfl (show Dc Y_X6_init 15 (.iload_n 1) 1 16 from ⟨by decide +kernel, rfl⟩) ?_
  refine J_bipush (6 : Int32) rfl (show Dc Y_X6_init 16 (.bipush 6) 2 18 from ⟨by decide +kernel, rfl⟩) ?_
  refine J_ifF (c := (6 : Int32) ≤ (3 : Int32)) (t1 := none) (by decide) ?_
  refine J_icmp_ge (tg := 40) (show Dc Y_X6_init 18 (.if_icmp .ge 22) 3 21 from ⟨by decide +kernel, rfl⟩) (by decide) (fun h => absurd h (by decide)) (fun _ => ?_)
  refine J_aload_n rfl rfl (show Dc Y_X6_init 21 (.aload_n 0) 1 22 from ⟨by decide +kernel, rfl⟩) ?_
  refine J_getR (show Dc Y_X6_init 22 (.getfield 11) 3 25 from ⟨by decide +kernel, rfl⟩) w_f_RX6_11 rfl (fun v15 => ?_)
  refine J_iload_n rfl rfl (show Dc Y_X6_init 25 (.iload_n 1) 1 26 from ⟨by decide +kernel, rfl⟩) ?_
  refine J_new (show Dc Y_X6_init 26 (.new 9) 3 29 from ⟨by decide +kernel, rfl⟩) w_n_RX6_9 (by decide) (by decide) (fun p16 => ?_)
  refine J_dup rfl (show Dc Y_X6_init 29 (.dup) 1 30 from ⟨by decide +kernel, rfl⟩) ?_
  refine J_callIN (host := "ParrotsLast") (so := fun r => r) (show Dc Y_X6_init 30 (.invokespecial 17) 3 33 from ⟨by decide +kernel, rfl⟩) (by decide +kernel) w_in_X0_init rfl rfl w_cw_X0_init (c_X0_init p16.1 p16.2) rfl rfl (by decide) (Nat.le_of_ble_eq_true rfl) (by decide) (by decide) (fun g17 _ => ?_)
  refine J_aast (kd := 25) (by decide) (show Dc Y_X6_init 33 (.aastore) 1 34 from ⟨by decide +kernel, rfl⟩) (fun g18 => ?_)
  refine J_iinc (1 : Int32) [some (.ref x0), some (.int (4 : Int32))] (show Dc Y_X6_init 34 (.iinc 1 1) 3 37 from ⟨by decide +kernel, rfl⟩) rfl rfl (by decide) rfl rfl ?_
  refine J_goto (tg := 15) (show Dc Y_X6_init 37 (.goto (-22)) 3 40 from ⟨by decide +kernel, rfl⟩) (by decide) ?_
  refine J_iload_n rfl rfl (show Dc Y_X6_init 15 (.iload_n 1) 1 16 from ⟨by decide +kernel, rfl⟩) ?_
  refine J_bipush (6 : Int32) rfl (show Dc Y_X6_init 16 (.bipush 6) 2 18 from ⟨by decide +kernel, rfl⟩) ?_
  refine J_ifF (c := (6 : Int32) ≤ (4 : Int32)) (t1 := none) (by decide) ?_
  refine J_icmp_ge (tg := 40) (show Dc Y_X6_init 18 (.if_icmp .ge 22) 3 21 from ⟨by decide +kernel, rfl⟩) (by decide) (fun h => absurd h (by decide)) (fun _ => ?_)
  refine J_aload_n rfl rfl (show Dc Y_X6_init 21 (.aload_n 0) 1 22 from ⟨by decide +kernel, rfl⟩) ?_
  refine J_getR (show Dc Y_X6_init 22 (.getfield 11) 3 25 from ⟨by decide +kernel, rfl⟩) w_f_RX6_11 rfl (fun v19 => ?_)
  refine J_iload_n rfl rfl (show Dc Y_X6_init 25 (.iload_n 1) 1 26 from ⟨by decide +kernel, rfl⟩) ?_
  refine J_new (show Dc Y_X6_init 26 (.new 9) 3 29 from ⟨by decide +kernel, rfl⟩) w_n_RX6_9 (by decide) (by decide) (fun p20 => ?_)
  refine J_dup rfl (show Dc Y_X6_init 29 (.dup) 1 30 from ⟨by decide +kernel, rfl⟩) ?_
  refine J_callIN (host := "ParrotsLast") (so := fun r => r) (show Dc Y_X6_init 30 (.invokespecial 17) 3 33 from ⟨by decide +kernel, rfl⟩) (by decide +kernel) w_in_X0_init rfl rfl w_cw_X0_init (c_X0_init p20.1 p20.2) rfl rfl (by decide) (Nat.le_of_ble_eq_true rfl) (by decide) (by decide) (fun g21 _ => ?_)
  refine J_aast (kd := 25) (by decide) (show Dc Y_X6_init 33 (.aastore) 1 34 from ⟨by decide +kernel, rfl⟩) (fun g22 => ?_)
  refine J_iinc (1 : Int32) [some (.ref x0), some (.int (5 : Int32))] (show Dc Y_X6_init 34 (.iinc 1 1) 3 37 from ⟨by decide +kernel, rfl⟩) rfl rfl (by decide) rfl rfl ?_
  refine J_goto (tg := 15) (show Dc Y_X6_init 37 (.goto (-22)) 3 40 from ⟨by decide +kernel, rfl⟩) (by decide) ?_
  refine J_iload_n rfl rfl (show Dc Y_X6_init 15 (.iload_n 1) 1 16 from ⟨by decide +kernel, rfl⟩) ?_
  refine J_bipush (6 : Int32) rfl (show Dc Y_X6_init 16 (.bipush 6) 2 18 from ⟨by decide +kernel, rfl⟩) ?_
  refine J_ifF (c := (6 : Int32) ≤ (5 : Int32)) (t1 := none) (by decide) ?_
  refine J_icmp_ge (tg := 40) (show Dc Y_X6_init 18 (.if_icmp .ge 22) 3 21 from ⟨by decide +kernel, rfl⟩) (by decide) (fun h => absurd h (by decide)) (fun _ => ?_)
  refine J_aload_n rfl rfl (show Dc Y_X6_init 21 (.aload_n 0) 1 22 from ⟨by decide +kernel, rfl⟩) ?_
  refine J_getR (show Dc Y_X6_init 22 (.getfield 11) 3 25 from ⟨by decide +kernel, rfl⟩) w_f_RX6_11 rfl (fun v23 => ?_)
  refine J_iload_n rfl rfl (show Dc Y_X6_init 25 (.iload_n 1) 1 26 from ⟨by decide +kernel, rfl⟩) ?_
  refine J_new (show Dc Y_X6_init 26 (.new 9) 3 29 from ⟨by decide +kernel, rfl⟩) w_n_RX6_9 (by decide) (by decide) (fun p24 => ?_)
  refine J_dup rfl (show Dc Y_X6_init 29 (.dup) 1 30 from ⟨by decide +kernel, rfl⟩) ?_
  refine J_callIN (host := "ParrotsLast") (so := fun r => r) (show Dc Y_X6_init 30 (.invokespecial 17) 3 33 from ⟨by decide +kernel, rfl⟩) (by decide +kernel) w_in_X0_init rfl rfl w_cw_X0_init (c_X0_init p24.1 p24.2) rfl rfl (by decide) (Nat.le_of_ble_eq_true rfl) (by decide) (by decide) (fun g25 _ => ?_)
  refine J_aast (kd := 25) (by decide) (show Dc Y_X6_init 33 (.aastore) 1 34 from ⟨by decide +kernel, rfl⟩) (fun g26 => ?_)
  refine J_iinc (1 : Int32) [some (.ref x0), some (.int (6 : Int32))] (show Dc Y_X6_init 34 (.iinc 1 1) 3 37 from ⟨by decide +kernel, rfl⟩) rfl rfl (by decide) rfl rfl ?_
  refine J_goto (tg := 15) (show Dc Y_X6_init 37 (.goto (-22)) 3 40 from ⟨by decide +kernel, rfl⟩) (by decide) ?_
  refine J_iload_n rfl rfl (show Dc Y_X6_init 15 (.iload_n 1) 1 16 from ⟨by decide +kernel, rfl⟩) ?_
  refine J_bipush (6 : Int32) rfl (show Dc Y_X6_init 16 (.bipush 6) 2 18 from ⟨by decide +kernel, rfl⟩) ?_
  refine J_ifT (c := (6 : Int32) ≤ (6 : Int32)) (t2 := none) (by decide) ?_
  refine J_icmp_ge (tg := 40) (show Dc Y_X6_init 18 (.if_icmp .ge 22) 3 21 from ⟨by decide +kernel, rfl⟩) (by decide) (fun _ => ?_) (fun h => absurd (by decide) h)
  exact J_ret0 (show Dc Y_X6_init 40 (.return_) 1 41 from ⟨by decide +kernel, rfl⟩) rfl (h0 _) (by decide) (by decide)

theorem c_X6_init {l : Launch} {D : ZD} {B0 : Nat} (x0 : Nat) (g : ZS) : ∀ r, f_X6_init x0 g = some r → zCt l D B0 yX6_init Y_X6_init [.ref x0] g none r :=
  zCt_ofF (vo := fun _ => none) (so := fun r => r) (by decide +kernel) rfl (fun _ => rfl) rfl (Nat.le_of_ble_eq_true rfl) (fun X => j_X6_init x0 g (fun _ h => h))

theorem j_X4_init {X : ZX} (x0 : Nat)   (g : ZS) {K : ZS → Prop} (h0 : ∀ g, K g → xK X none g) : J Y_X4_init X 0 0 0 [some (.ref x0), none] [] g (f_X4_init x0 g) K := by
  unfold f_X4_init
  refine J_aload_n rfl rfl (show Dc Y_X4_init 0 (.aload_n 0) 1 1 from ⟨by decide +kernel, rfl⟩) ?_
  refine J_objI (show Dc Y_X4_init 1 (.invokespecial 3) 3 4 from ⟨by decide +kernel, rfl⟩) w_m_RX4_3 w_oi w_oc (by decide) (Nat.le_of_ble_eq_true rfl) ?_
  refine J_aload_n rfl rfl (show Dc Y_X4_init 4 (.aload_n 0) 1 5 from ⟨by decide +kernel, rfl⟩) ?_
  refine J_bipush (12 : Int32) rfl (show Dc Y_X4_init 5 (.bipush 12) 2 7 from ⟨by decide +kernel, rfl⟩) ?_
  refine J_anewa (kd := 26) (n := 12) (show Dc Y_X4_init 7 (.anewarray 9) 3 10 from ⟨by decide +kernel, rfl⟩) (by decide) rfl w_c_RX4_9 (by decide) rfl (by decide) (by decide) (by decide) (fun p1 => ?_)
  refine J_putR (show Dc Y_X4_init 10 (.putfield 11) 3 13 from ⟨by decide +kernel, rfl⟩) w_f_RX4_11 rfl (Or.inl rfl) (fun g2 => ?_) (fun _ => rfl)
  refine J_iconst (0 : Int32) rfl (show Dc Y_X4_init 13 (.iconst 0) 1 14 from ⟨by decide +kernel, rfl⟩) ?_
  refine J_istore_n [some (.ref x0), some (.int (0 : Int32))] (show Dc Y_X4_init 14 (.istore_n 1) 1 15 from ⟨by decide +kernel, rfl⟩) rfl (by decide) rfl rfl ?_
  refine J_iload_n rfl rfl (show Dc Y_X4_init 15 (.iload_n 1) 1 16 from ⟨by decide +kernel, rfl⟩) ?_
  refine J_bipush (12 : Int32) rfl (show Dc Y_X4_init 16 (.bipush 12) 2 18 from ⟨by decide +kernel, rfl⟩) ?_
  refine J_ifF (c := (12 : Int32) ≤ (0 : Int32)) (t1 := none) (by decide) ?_
  refine J_icmp_ge (tg := 40) (show Dc Y_X4_init 18 (.if_icmp .ge 22) 3 21 from ⟨by decide +kernel, rfl⟩) (by decide) (fun h => absurd h (by decide)) (fun _ => ?_)
  refine J_aload_n rfl rfl (show Dc Y_X4_init 21 (.aload_n 0) 1 22 from ⟨by decide +kernel, rfl⟩) ?_
  refine J_getR (show Dc Y_X4_init 22 (.getfield 11) 3 25 from ⟨by decide +kernel, rfl⟩) w_f_RX4_11 rfl (fun v3 => ?_)
  refine J_iload_n rfl rfl (show Dc Y_X4_init 25 (.iload_n 1) 1 26 from ⟨by decide +kernel, rfl⟩) ?_
  refine J_new (show Dc Y_X4_init 26 (.new 9) 3 29 from ⟨by decide +kernel, rfl⟩) w_n_RX4_9 (by decide) (by decide) (fun p4 => ?_)
  refine J_dup rfl (show Dc Y_X4_init 29 (.dup) 1 30 from ⟨by decide +kernel, rfl⟩) ?_
  refine J_callI (so := fun r => r) (show Dc Y_X4_init 30 (.invokespecial 17) 3 33 from ⟨by decide +kernel, rfl⟩) w_m_RX4_17 w_in_X6_init rfl rfl w_cw_X6_init (c_X6_init p4.1 p4.2) rfl rfl (by decide) (Nat.le_of_ble_eq_true rfl) (by decide) (by decide) (fun g5 _ => ?_)
  refine J_aast (kd := 26) (by decide) (show Dc Y_X4_init 33 (.aastore) 1 34 from ⟨by decide +kernel, rfl⟩) (fun g6 => ?_)
  refine J_iinc (1 : Int32) [some (.ref x0), some (.int (1 : Int32))] (show Dc Y_X4_init 34 (.iinc 1 1) 3 37 from ⟨by decide +kernel, rfl⟩) rfl rfl (by decide) rfl rfl ?_
  refine J_goto (tg := 15) (show Dc Y_X4_init 37 (.goto (-22)) 3 40 from ⟨by decide +kernel, rfl⟩) (by decide) ?_
  refine J_iload_n rfl rfl (show Dc Y_X4_init 15 (.iload_n 1) 1 16 from ⟨by decide +kernel, rfl⟩) ?_
  refine J_bipush (12 : Int32) rfl (show Dc Y_X4_init 16 (.bipush 12) 2 18 from ⟨by decide +kernel, rfl⟩) ?_
  refine J_ifF (c := (12 : Int32) ≤ (1 : Int32)) (t1 := none) (by decide) ?_
  refine J_icmp_ge (tg := 40) (show Dc Y_X4_init 18 (.if_icmp .ge 22) 3 21 from ⟨by decide +kernel, rfl⟩) (by decide) (fun h => absurd h (by decide)) (fun _ => ?_)
  refine J_aload_n rfl rfl (show Dc Y_X4_init 21 (.aload_n 0) 1 22 from ⟨by decide +kernel, rfl⟩) ?_
  refine J_getR (show Dc Y_X4_init 22 (.getfield 11) 3 25 from ⟨by decide +kernel, rfl⟩) w_f_RX4_11 rfl (fun v7 => ?_)
  refine J_iload_n rfl rfl (show Dc Y_X4_init 25 (.iload_n 1) 1 26 from ⟨by decide +kernel, rfl⟩) ?_
  refine J_new (show Dc Y_X4_init 26 (.new 9) 3 29 from ⟨by decide +kernel, rfl⟩) w_n_RX4_9 (by decide) (by decide) (fun p8 => ?_)
  refine J_dup rfl (show Dc Y_X4_init 29 (.dup) 1 30 from ⟨by decide +kernel, rfl⟩) ?_
  refine J_callI (so := fun r => r) (show Dc Y_X4_init 30 (.invokespecial 17) 3 33 from ⟨by decide +kernel, rfl⟩) w_m_RX4_17 w_in_X6_init rfl rfl w_cw_X6_init (c_X6_init p8.1 p8.2) rfl rfl (by decide) (Nat.le_of_ble_eq_true rfl) (by decide) (by decide) (fun g9 _ => ?_)
  refine J_aast (kd := 26) (by decide) (show Dc Y_X4_init 33 (.aastore) 1 34 from ⟨by decide +kernel, rfl⟩) (fun g10 => ?_)
  refine J_iinc (1 : Int32) [some (.ref x0), some (.int (2 : Int32))] (show Dc Y_X4_init 34 (.iinc 1 1) 3 37 from ⟨by decide +kernel, rfl⟩) rfl rfl (by decide) rfl rfl ?_
  refine J_goto (tg := 15) (show Dc Y_X4_init 37 (.goto (-22)) 3 40 from ⟨by decide +kernel, rfl⟩) (by decide) ?_
  refine J_iload_n rfl rfl (show Dc Y_X4_init 15 (.iload_n 1) 1 16 from ⟨by decide +kernel, rfl⟩) ?_
  refine J_bipush (12 : Int32) rfl (show Dc Y_X4_init 16 (.bipush 12) 2 18 from ⟨by decide +kernel, rfl⟩) ?_
  refine J_ifF (c := (12 : Int32) ≤ (2 : Int32)) (t1 := none) (by decide) ?_
  refine J_icmp_ge (tg := 40) (show Dc Y_X4_init 18 (.if_icmp .ge 22) 3 21 from ⟨by decide +kernel, rfl⟩) (by decide) (fun h => absurd h (by decide)) (fun _ => ?_)
  refine J_aload_n rfl rfl (show Dc Y_X4_init 21 (.aload_n 0) 1 22 from ⟨by decide +kernel, rfl⟩) ?_
  refine J_getR (show Dc Y_X4_init 22 (.getfield 11) 3 25 from ⟨by decide +kernel, rfl⟩) w_f_RX4_11 rfl (fun v11 => ?_)
  refine J_iload_n rfl rfl (show Dc Y_X4_init 25 (.iload_n 1) 1 26 from ⟨by decide +kernel, rfl⟩) ?_
  refine J_new (show Dc Y_X4_init 26 (.new 9) 3 29 from ⟨by decide +kernel, rfl⟩) w_n_RX4_9 (by decide) (by decide) (fun p12 => ?_)
  refine J_dup rfl (show Dc Y_X4_init 29 (.dup) 1 30 from ⟨by decide +kernel, rfl⟩) ?_
  refine J_callI (so := fun r => r) (show Dc Y_X4_init 30 (.invokespecial 17) 3 33 from ⟨by decide +kernel, rfl⟩) w_m_RX4_17 w_in_X6_init rfl rfl w_cw_X6_init (c_X6_init p12.1 p12.2) rfl rfl (by decide) (Nat.le_of_ble_eq_true rfl) (by decide) (by decide) (fun g13 _ => ?_)
  refine J_aast (kd := 26) (by decide) (show Dc Y_X4_init 33 (.aastore) 1 34 from ⟨by decide +kernel, rfl⟩) (fun g14 => ?_)
  refine J_iinc (1 : Int32) [some (.ref x0), some (.int (3 : Int32))] (show Dc Y_X4_init 34 (.iinc 1 1) 3 37 from ⟨by decide +kernel, rfl⟩) rfl rfl (by decide) rfl rfl ?_
  refine J_goto (tg := 15) (show Dc Y_X4_init 37 (.goto (-22)) 3 40 from ⟨by decide +kernel, rfl⟩) (by decide) ?_
  refine J_iload_n rfl rfl (show Dc Y_X4_init 15 (.iload_n 1) 1 16 from ⟨by decide +kernel, rfl⟩) ?_
  refine J_bipush (12 : Int32) rfl (show Dc Y_X4_init 16 (.bipush 12) 2 18 from ⟨by decide +kernel, rfl⟩) ?_
  refine J_ifF (c := (12 : Int32) ≤ (3 : Int32)) (t1 := none) (by decide) ?_
  refine J_icmp_ge (tg := 40) (show Dc Y_X4_init 18 (.if_icmp .ge 22) 3 21 from ⟨by decide +kernel, rfl⟩) (by decide) (fun h => absurd h (by decide)) (fun _ => ?_)
  refine J_aload_n rfl rfl (show Dc Y_X4_init 21 (.aload_n 0) 1 22 from ⟨by decide +kernel, rfl⟩) ?_
  refine J_getR (show Dc Y_X4_init 22 (.getfield 11) 3 25 from ⟨by decide +kernel, rfl⟩) w_f_RX4_11 rfl (fun v15 => ?_)
  refine J_iload_n rfl rfl (show Dc Y_X4_init 25 (.iload_n 1) 1 26 from ⟨by decide +kernel, rfl⟩) ?_
  refine J_new (show Dc Y_X4_init 26 (.new 9) 3 29 from ⟨by decide +kernel, rfl⟩) w_n_RX4_9 (by decide) (by decide) (fun p16 => ?_)
  refine J_dup rfl (show Dc Y_X4_init 29 (.dup) 1 30 from ⟨by decide +kernel, rfl⟩) ?_
  refine J_callI (so := fun r => r) (show Dc Y_X4_init 30 (.invokespecial 17) 3 33 from ⟨by decide +kernel, rfl⟩) w_m_RX4_17 w_in_X6_init rfl rfl w_cw_X6_init (c_X6_init p16.1 p16.2) rfl rfl (by decide) (Nat.le_of_ble_eq_true rfl) (by decide) (by decide) (fun g17 _ => ?_)
  refine J_aast (kd := 26) (by decide) (show Dc Y_X4_init 33 (.aastore) 1 34 from ⟨by decide +kernel, rfl⟩) (fun g18 => ?_)
  refine J_iinc (1 : Int32) [some (.ref x0), some (.int (4 : Int32))] (show Dc Y_X4_init 34 (.iinc 1 1) 3 37 from ⟨by decide +kernel, rfl⟩) rfl rfl (by decide) rfl rfl ?_
  refine J_goto (tg := 15) (show Dc Y_X4_init 37 (.goto (-22)) 3 40 from ⟨by decide +kernel, rfl⟩) (by decide) ?_
  refine J_iload_n rfl rfl (show Dc Y_X4_init 15 (.iload_n 1) 1 16 from ⟨by decide +kernel, rfl⟩) ?_
  refine J_bipush (12 : Int32) rfl (show Dc Y_X4_init 16 (.bipush 12) 2 18 from ⟨by decide +kernel, rfl⟩) ?_
  refine J_ifF (c := (12 : Int32) ≤ (4 : Int32)) (t1 := none) (by decide) ?_
  refine J_icmp_ge (tg := 40) (show Dc Y_X4_init 18 (.if_icmp .ge 22) 3 21 from ⟨by decide +kernel, rfl⟩) (by decide) (fun h => absurd h (by decide)) (fun _ => ?_)
  refine J_aload_n rfl rfl (show Dc Y_X4_init 21 (.aload_n 0) 1 22 from ⟨by decide +kernel, rfl⟩) ?_
  refine J_getR (show Dc Y_X4_init 22 (.getfield 11) 3 25 from ⟨by decide +kernel, rfl⟩) w_f_RX4_11 rfl (fun v19 => ?_)
  refine J_iload_n rfl rfl (show Dc Y_X4_init 25 (.iload_n 1) 1 26 from ⟨by decide +kernel, rfl⟩) ?_
  refine J_new (show Dc Y_X4_init 26 (.new 9) 3 29 from ⟨by decide +kernel, rfl⟩) w_n_RX4_9 (by decide) (by decide) (fun p20 => ?_)
  refine J_dup rfl (show Dc Y_X4_init 29 (.dup) 1 30 from ⟨by decide +kernel, rfl⟩) ?_
  refine J_callI (so := fun r => r) (show Dc Y_X4_init 30 (.invokespecial 17) 3 33 from ⟨by decide +kernel, rfl⟩) w_m_RX4_17 w_in_X6_init rfl rfl w_cw_X6_init (c_X6_init p20.1 p20.2) rfl rfl (by decide) (Nat.le_of_ble_eq_true rfl) (by decide) (by decide) (fun g21 _ => ?_)
  refine J_aast (kd := 26) (by decide) (show Dc Y_X4_init 33 (.aastore) 1 34 from ⟨by decide +kernel, rfl⟩) (fun g22 => ?_)
  refine J_iinc (1 : Int32) [some (.ref x0), some (.int (5 : Int32))] (show Dc Y_X4_init 34 (.iinc 1 1) 3 37 from ⟨by decide +kernel, rfl⟩) rfl rfl (by decide) rfl rfl ?_
  refine J_goto (tg := 15) (show Dc Y_X4_init 37 (.goto (-22)) 3 40 from ⟨by decide +kernel, rfl⟩) (by decide) ?_
  refine J_iload_n rfl rfl (show Dc Y_X4_init 15 (.iload_n 1) 1 16 from ⟨by decide +kernel, rfl⟩) ?_
  refine J_bipush (12 : Int32) rfl (show Dc Y_X4_init 16 (.bipush 12) 2 18 from ⟨by decide +kernel, rfl⟩) ?_
  refine J_ifF (c := (12 : Int32) ≤ (5 : Int32)) (t1 := none) (by decide) ?_
  refine J_icmp_ge (tg := 40) (show Dc Y_X4_init 18 (.if_icmp .ge 22) 3 21 from ⟨by decide +kernel, rfl⟩) (by decide) (fun h => absurd h (by decide)) (fun _ => ?_)
  refine J_aload_n rfl rfl (show Dc Y_X4_init 21 (.aload_n 0) 1 22 from ⟨by decide +kernel, rfl⟩) ?_
  refine J_getR (show Dc Y_X4_init 22 (.getfield 11) 3 25 from ⟨by decide +kernel, rfl⟩) w_f_RX4_11 rfl (fun v23 => ?_)
  refine J_iload_n rfl rfl (show Dc Y_X4_init 25 (.iload_n 1) 1 26 from ⟨by decide +kernel, rfl⟩) ?_
  refine J_new (show Dc Y_X4_init 26 (.new 9) 3 29 from ⟨by decide +kernel, rfl⟩) w_n_RX4_9 (by decide) (by decide) (fun p24 => ?_)
  refine J_dup rfl (show Dc Y_X4_init 29 (.dup) 1 30 from ⟨by decide +kernel, rfl⟩) ?_
  refine J_callI (so := fun r => r) (show Dc Y_X4_init 30 (.invokespecial 17) 3 33 from ⟨by decide +kernel, rfl⟩) w_m_RX4_17 w_in_X6_init rfl rfl w_cw_X6_init (c_X6_init p24.1 p24.2) rfl rfl (by decide) (Nat.le_of_ble_eq_true rfl) (by decide) (by decide) (fun g25 _ => ?_)
  refine J_aast (kd := 26) (by decide) (show Dc Y_X4_init 33 (.aastore) 1 34 from ⟨by decide +kernel, rfl⟩) (fun g26 => ?_)
  refine J_iinc (1 : Int32) [some (.ref x0), some (.int (6 : Int32))] (show Dc Y_X4_init 34 (.iinc 1 1) 3 37 from ⟨by decide +kernel, rfl⟩) rfl rfl (by decide) rfl rfl ?_
  refine J_goto (tg := 15) (show Dc Y_X4_init 37 (.goto (-22)) 3 40 from ⟨by decide +kernel, rfl⟩) (by decide) ?_
  refine J_iload_n rfl rfl (show Dc Y_X4_init 15 (.iload_n 1) 1 16 from ⟨by decide +kernel, rfl⟩) ?_
  refine J_bipush (12 : Int32) rfl (show Dc Y_X4_init 16 (.bipush 12) 2 18 from ⟨by decide +kernel, rfl⟩) ?_
  refine J_ifF (c := (12 : Int32) ≤ (6 : Int32)) (t1 := none) (by decide) ?_
  refine J_icmp_ge (tg := 40) (show Dc Y_X4_init 18 (.if_icmp .ge 22) 3 21 from ⟨by decide +kernel, rfl⟩) (by decide) (fun h => absurd h (by decide)) (fun _ => ?_)
  refine J_aload_n rfl rfl (show Dc Y_X4_init 21 (.aload_n 0) 1 22 from ⟨by decide +kernel, rfl⟩) ?_
  refine J_getR (show Dc Y_X4_init 22 (.getfield 11) 3 25 from ⟨by decide +kernel, rfl⟩) w_f_RX4_11 rfl (fun v27 => ?_)
  refine J_iload_n rfl rfl (show Dc Y_X4_init 25 (.iload_n 1) 1 26 from ⟨by decide +kernel, rfl⟩) ?_
  refine J_new (show Dc Y_X4_init 26 (.new 9) 3 29 from ⟨by decide +kernel, rfl⟩) w_n_RX4_9 (by decide) (by decide) (fun p28 => ?_)
  refine J_dup rfl (show Dc Y_X4_init 29 (.dup) 1 30 from ⟨by decide +kernel, rfl⟩) ?_
  refine J_callI (so := fun r => r) (show Dc Y_X4_init 30 (.invokespecial 17) 3 33 from ⟨by decide +kernel, rfl⟩) w_m_RX4_17 w_in_X6_init rfl rfl w_cw_X6_init (c_X6_init p28.1 p28.2) rfl rfl (by decide) (Nat.le_of_ble_eq_true rfl) (by decide) (by decide) (fun g29 _ => ?_)
  refine J_aast (kd := 26) (by decide) (show Dc Y_X4_init 33 (.aastore) 1 34 from ⟨by decide +kernel, rfl⟩) (fun g30 => ?_)
  refine J_iinc (1 : Int32) [some (.ref x0), some (.int (7 : Int32))] (show Dc Y_X4_init 34 (.iinc 1 1) 3 37 from ⟨by decide +kernel, rfl⟩) rfl rfl (by decide) rfl rfl ?_
  refine J_goto (tg := 15) (show Dc Y_X4_init 37 (.goto (-22)) 3 40 from ⟨by decide +kernel, rfl⟩) (by decide) ?_
  refine J_iload_n rfl rfl (show Dc Y_X4_init 15 (.iload_n 1) 1 16 from ⟨by decide +kernel, rfl⟩) ?_
  refine J_bipush (12 : Int32) rfl (show Dc Y_X4_init 16 (.bipush 12) 2 18 from ⟨by decide +kernel, rfl⟩) ?_
  refine J_ifF (c := (12 : Int32) ≤ (7 : Int32)) (t1 := none) (by decide) ?_
  refine J_icmp_ge (tg := 40) (show Dc Y_X4_init 18 (.if_icmp .ge 22) 3 21 from ⟨by decide +kernel, rfl⟩) (by decide) (fun h => absurd h (by decide)) (fun _ => ?_)
  refine J_aload_n rfl rfl (show Dc Y_X4_init 21 (.aload_n 0) 1 22 from ⟨by decide +kernel, rfl⟩) ?_
  refine J_getR (show Dc Y_X4_init 22 (.getfield 11) 3 25 from ⟨by decide +kernel, rfl⟩) w_f_RX4_11 rfl (fun v31 => ?_)
  refine J_iload_n rfl rfl (show Dc Y_X4_init 25 (.iload_n 1) 1 26 from ⟨by decide +kernel, rfl⟩) ?_
  refine J_new (show Dc Y_X4_init 26 (.new 9) 3 29 from ⟨by decide +kernel, rfl⟩) w_n_RX4_9 (by decide) (by decide) (fun p32 => ?_)
  refine J_dup rfl (show Dc Y_X4_init 29 (.dup) 1 30 from ⟨by decide +kernel, rfl⟩) ?_
  refine J_callI (so := fun r => r) (show Dc Y_X4_init 30 (.invokespecial 17) 3 33 from ⟨by decide +kernel, rfl⟩) w_m_RX4_17 w_in_X6_init rfl rfl w_cw_X6_init (c_X6_init p32.1 p32.2) rfl rfl (by decide) (Nat.le_of_ble_eq_true rfl) (by decide) (by decide) (fun g33 _ => ?_)
  refine J_aast (kd := 26) (by decide) (show Dc Y_X4_init 33 (.aastore) 1 34 from ⟨by decide +kernel, rfl⟩) (fun g34 => ?_)
  refine J_iinc (1 : Int32) [some (.ref x0), some (.int (8 : Int32))] (show Dc Y_X4_init 34 (.iinc 1 1) 3 37 from ⟨by decide +kernel, rfl⟩) rfl rfl (by decide) rfl rfl ?_
  refine J_goto (tg := 15) (show Dc Y_X4_init 37 (.goto (-22)) 3 40 from ⟨by decide +kernel, rfl⟩) (by decide) ?_
  refine J_iload_n rfl rfl (show Dc Y_X4_init 15 (.iload_n 1) 1 16 from ⟨by decide +kernel, rfl⟩) ?_
  refine J_bipush (12 : Int32) rfl (show Dc Y_X4_init 16 (.bipush 12) 2 18 from ⟨by decide +kernel, rfl⟩) ?_
  refine J_ifF (c := (12 : Int32) ≤ (8 : Int32)) (t1 := none) (by decide) ?_
  refine J_icmp_ge (tg := 40) (show Dc Y_X4_init 18 (.if_icmp .ge 22) 3 21 from ⟨by decide +kernel, rfl⟩) (by decide) (fun h => absurd h (by decide)) (fun _ => ?_)
  refine J_aload_n rfl rfl (show Dc Y_X4_init 21 (.aload_n 0) 1 22 from ⟨by decide +kernel, rfl⟩) ?_
  refine J_getR (show Dc Y_X4_init 22 (.getfield 11) 3 25 from ⟨by decide +kernel, rfl⟩) w_f_RX4_11 rfl (fun v35 => ?_)
  refine J_iload_n rfl rfl (show Dc Y_X4_init 25 (.iload_n 1) 1 26 from ⟨by decide +kernel, rfl⟩) ?_
  refine J_new (show Dc Y_X4_init 26 (.new 9) 3 29 from ⟨by decide +kernel, rfl⟩) w_n_RX4_9 (by decide) (by decide) (fun p36 => ?_)
  refine J_dup rfl (show Dc Y_X4_init 29 (.dup) 1 30 from ⟨by decide +kernel, rfl⟩) ?_
  refine J_callI (so := fun r => r) (show Dc Y_X4_init 30 (.invokespecial 17) 3 33 from ⟨by decide +kernel, rfl⟩) w_m_RX4_17 w_in_X6_init rfl rfl w_cw_X6_init (c_X6_init p36.1 p36.2) rfl rfl (by decide) (Nat.le_of_ble_eq_true rfl) (by decide) (by decide) (fun g37 _ => ?_)
  refine J_aast (kd := 26) (by decide) (show Dc Y_X4_init 33 (.aastore) 1 34 from ⟨by decide +kernel, rfl⟩) (fun g38 => ?_)
  refine J_iinc (1 : Int32) [some (.ref x0), some (.int (9 : Int32))] (show Dc Y_X4_init 34 (.iinc 1 1) 3 37 from ⟨by decide +kernel, rfl⟩) rfl rfl (by decide) rfl rfl ?_
  refine J_goto (tg := 15) (show Dc Y_X4_init 37 (.goto (-22)) 3 40 from ⟨by decide +kernel, rfl⟩) (by decide) ?_
  refine J_iload_n rfl rfl (show Dc Y_X4_init 15 (.iload_n 1) 1 16 from ⟨by decide +kernel, rfl⟩) ?_
  refine J_bipush (12 : Int32) rfl (show Dc Y_X4_init 16 (.bipush 12) 2 18 from ⟨by decide +kernel, rfl⟩) ?_
  refine J_ifF (c := (12 : Int32) ≤ (9 : Int32)) (t1 := none) (by decide) ?_
  refine J_icmp_ge (tg := 40) (show Dc Y_X4_init 18 (.if_icmp .ge 22) 3 21 from ⟨by decide +kernel, rfl⟩) (by decide) (fun h => absurd h (by decide)) (fun _ => ?_)
  refine J_aload_n rfl rfl (show Dc Y_X4_init 21 (.aload_n 0) 1 22 from ⟨by decide +kernel, rfl⟩) ?_
  refine J_getR (show Dc Y_X4_init 22 (.getfield 11) 3 25 from ⟨by decide +kernel, rfl⟩) w_f_RX4_11 rfl (fun v39 => ?_)
  refine J_iload_n rfl rfl (show Dc Y_X4_init 25 (.iload_n 1) 1 26 from ⟨by decide +kernel, rfl⟩) ?_
  refine J_new (show Dc Y_X4_init 26 (.new 9) 3 29 from ⟨by decide +kernel, rfl⟩) w_n_RX4_9 (by decide) (by decide) (fun p40 => ?_)
  refine J_dup rfl (show Dc Y_X4_init 29 (.dup) 1 30 from ⟨by decide +kernel, rfl⟩) ?_
  refine J_callI (so := fun r => r) (show Dc Y_X4_init 30 (.invokespecial 17) 3 33 from ⟨by decide +kernel, rfl⟩) w_m_RX4_17 w_in_X6_init rfl rfl w_cw_X6_init (c_X6_init p40.1 p40.2) rfl rfl (by decide) (Nat.le_of_ble_eq_true rfl) (by decide) (by decide) (fun g41 _ => ?_)
  refine J_aast (kd := 26) (by decide) (show Dc Y_X4_init 33 (.aastore) 1 34 from ⟨by decide +kernel, rfl⟩) (fun g42 => ?_)
  refine J_iinc (1 : Int32) [some (.ref x0), some (.int (10 : Int32))] (show Dc Y_X4_init 34 (.iinc 1 1) 3 37 from ⟨by decide +kernel, rfl⟩) rfl rfl (by decide) rfl rfl ?_
  refine J_goto (tg := 15) (show Dc Y_X4_init 37 (.goto (-22)) 3 40 from ⟨by decide +kernel, rfl⟩) (by decide) ?_
  refine J_iload_n rfl rfl (show Dc Y_X4_init 15 (.iload_n 1) 1 16 from ⟨by decide +kernel, rfl⟩) ?_
  refine J_bipush (12 : Int32) rfl (show Dc Y_X4_init 16 (.bipush 12) 2 18 from ⟨by decide +kernel, rfl⟩) ?_
  refine J_ifF (c := (12 : Int32) ≤ (10 : Int32)) (t1 := none) (by decide) ?_
  refine J_icmp_ge (tg := 40) (show Dc Y_X4_init 18 (.if_icmp .ge 22) 3 21 from ⟨by decide +kernel, rfl⟩) (by decide) (fun h => absurd h (by decide)) (fun _ => ?_)
  refine J_aload_n rfl rfl (show Dc Y_X4_init 21 (.aload_n 0) 1 22 from ⟨by decide +kernel, rfl⟩) ?_
  refine J_getR (show Dc Y_X4_init 22 (.getfield 11) 3 25 from ⟨by decide +kernel, rfl⟩) w_f_RX4_11 rfl (fun v43 => ?_)
  refine J_iload_n rfl rfl (show Dc Y_X4_init 25 (.iload_n 1) 1 26 from ⟨by decide +kernel, rfl⟩) ?_
  refine J_new (show Dc Y_X4_init 26 (.new 9) 3 29 from ⟨by decide +kernel, rfl⟩) w_n_RX4_9 (by decide) (by decide) (fun p44 => ?_)
  refine J_dup rfl (show Dc Y_X4_init 29 (.dup) 1 30 from ⟨by decide +kernel, rfl⟩) ?_
  refine J_callI (so := fun r => r) (show Dc Y_X4_init 30 (.invokespecial 17) 3 33 from ⟨by decide +kernel, rfl⟩) w_m_RX4_17 w_in_X6_init rfl rfl w_cw_X6_init (c_X6_init p44.1 p44.2) rfl rfl (by decide) (Nat.le_of_ble_eq_true rfl) (by decide) (by decide) (fun g45 _ => ?_)
  refine J_aast (kd := 26) (by decide) (show Dc Y_X4_init 33 (.aastore) 1 34 from ⟨by decide +kernel, rfl⟩) (fun g46 => ?_)
  refine J_iinc (1 : Int32) [some (.ref x0), some (.int (11 : Int32))] (show Dc Y_X4_init 34 (.iinc 1 1) 3 37 from ⟨by decide +kernel, rfl⟩) rfl rfl (by decide) rfl rfl ?_
  refine J_goto (tg := 15) (show Dc Y_X4_init 37 (.goto (-22)) 3 40 from ⟨by decide +kernel, rfl⟩) (by decide) ?_
  refine J_iload_n rfl rfl (show Dc Y_X4_init 15 (.iload_n 1) 1 16 from ⟨by decide +kernel, rfl⟩) ?_
  refine J_bipush (12 : Int32) rfl (show Dc Y_X4_init 16 (.bipush 12) 2 18 from ⟨by decide +kernel, rfl⟩) ?_
  refine J_ifF (c := (12 : Int32) ≤ (11 : Int32)) (t1 := none) (by decide) ?_
  refine J_icmp_ge (tg := 40) (show Dc Y_X4_init 18 (.if_icmp .ge 22) 3 21 from ⟨by decide +kernel, rfl⟩) (by decide) (fun h => absurd h (by decide)) (fun _ => ?_)
  refine J_aload_n rfl rfl (show Dc Y_X4_init 21 (.aload_n 0) 1 22 from ⟨by decide +kernel, rfl⟩) ?_
  refine J_getR (show Dc Y_X4_init 22 (.getfield 11) 3 25 from ⟨by decide +kernel, rfl⟩) w_f_RX4_11 rfl (fun v47 => ?_)
  refine J_iload_n rfl rfl (show Dc Y_X4_init 25 (.iload_n 1) 1 26 from ⟨by decide +kernel, rfl⟩) ?_
  refine J_new (show Dc Y_X4_init 26 (.new 9) 3 29 from ⟨by decide +kernel, rfl⟩) w_n_RX4_9 (by decide) (by decide) (fun p48 => ?_)
  refine J_dup rfl (show Dc Y_X4_init 29 (.dup) 1 30 from ⟨by decide +kernel, rfl⟩) ?_
  refine J_callI (so := fun r => r) (show Dc Y_X4_init 30 (.invokespecial 17) 3 33 from ⟨by decide +kernel, rfl⟩) w_m_RX4_17 w_in_X6_init rfl rfl w_cw_X6_init (c_X6_init p48.1 p48.2) rfl rfl (by decide) (Nat.le_of_ble_eq_true rfl) (by decide) (by decide) (fun g49 _ => ?_)
  refine J_aast (kd := 26) (by decide) (show Dc Y_X4_init 33 (.aastore) 1 34 from ⟨by decide +kernel, rfl⟩) (fun g50 => ?_)
  refine J_iinc (1 : Int32) [some (.ref x0), some (.int (12 : Int32))] (show Dc Y_X4_init 34 (.iinc 1 1) 3 37 from ⟨by decide +kernel, rfl⟩) rfl rfl (by decide) rfl rfl ?_
  refine J_goto (tg := 15) (show Dc Y_X4_init 37 (.goto (-22)) 3 40 from ⟨by decide +kernel, rfl⟩) (by decide) ?_
  refine J_iload_n rfl rfl (show Dc Y_X4_init 15 (.iload_n 1) 1 16 from ⟨by decide +kernel, rfl⟩) ?_
  refine J_bipush (12 : Int32) rfl (show Dc Y_X4_init 16 (.bipush 12) 2 18 from ⟨by decide +kernel, rfl⟩) ?_
  refine J_ifT (c := (12 : Int32) ≤ (12 : Int32)) (t2 := none) (by decide) ?_
  refine J_icmp_ge (tg := 40) (show Dc Y_X4_init 18 (.if_icmp .ge 22) 3 21 from ⟨by decide +kernel, rfl⟩) (by decide) (fun _ => ?_) (fun h => absurd (by decide) h)
  exact J_ret0 (show Dc Y_X4_init 40 (.return_) 1 41 from ⟨by decide +kernel, rfl⟩) rfl (h0 _) (by decide) (by decide)

theorem c_X4_init {l : Launch} {D : ZD} {B0 : Nat} (x0 : Nat) (g : ZS) : ∀ r, f_X4_init x0 g = some r → zCt l D B0 yX4_init Y_X4_init [.ref x0] g none r :=
  zCt_ofF (vo := fun _ => none) (so := fun r => r) (by decide +kernel) rfl (fun _ => rfl) rfl (Nat.le_of_ble_eq_true rfl) (fun X => j_X4_init x0 g (fun _ h => h))

theorem j_X10_init {X : ZX} (x0 : Nat)   (g : ZS) {K : ZS → Prop} (h0 : ∀ g, K g → xK X none g) : J Y_X10_init X 0 0 0 [some (.ref x0)] [] g (f_X10_init x0 g) K := by
  unfold f_X10_init
  refine J_aload_n rfl rfl (show Dc Y_X10_init 0 (.aload_n 0) 1 1 from ⟨by decide +kernel, rfl⟩) ?_
  refine J_objI (show Dc Y_X10_init 1 (.invokespecial 3) 3 4 from ⟨by decide +kernel, rfl⟩) w_m_RX10_3 w_oi w_oc (by decide) (Nat.le_of_ble_eq_true rfl) ?_
  refine J_aload_n rfl rfl (show Dc Y_X10_init 4 (.aload_n 0) 1 5 from ⟨by decide +kernel, rfl⟩) ?_
  refine J_bipush (8 : Int32) rfl (show Dc Y_X10_init 5 (.bipush 8) 2 7 from ⟨by decide +kernel, rfl⟩) ?_
  refine J_newa (kd := 20) (n := 8) (show Dc Y_X10_init 7 (.newarray .int) 2 9 from ⟨by decide +kernel, rfl⟩) (by decide) (by decide) rfl w_ac20 (by decide) rfl (by decide) (by decide) (by decide) (fun p1 => ?_)
  refine J_putR (show Dc Y_X10_init 9 (.putfield 9) 3 12 from ⟨by decide +kernel, rfl⟩) w_f_RX10_9 rfl (Or.inl rfl) (fun g2 => ?_) (fun _ => rfl)
  refine J_aload_n rfl rfl (show Dc Y_X10_init 12 (.aload_n 0) 1 13 from ⟨by decide +kernel, rfl⟩) ?_
  refine J_bipush (8 : Int32) rfl (show Dc Y_X10_init 13 (.bipush 8) 2 15 from ⟨by decide +kernel, rfl⟩) ?_
  refine J_newa (kd := 20) (n := 8) (show Dc Y_X10_init 15 (.newarray .int) 2 17 from ⟨by decide +kernel, rfl⟩) (by decide) (by decide) rfl w_ac20 (by decide) rfl (by decide) (by decide) (by decide) (fun p3 => ?_)
  refine J_putR (show Dc Y_X10_init 17 (.putfield 15) 3 20 from ⟨by decide +kernel, rfl⟩) w_f_RX10_15 rfl (Or.inl rfl) (fun g4 => ?_) (fun _ => rfl)
  refine J_aload_n rfl rfl (show Dc Y_X10_init 20 (.aload_n 0) 1 21 from ⟨by decide +kernel, rfl⟩) ?_
  refine J_bipush (9 : Int32) rfl (show Dc Y_X10_init 21 (.bipush 9) 2 23 from ⟨by decide +kernel, rfl⟩) ?_
  refine J_bipush (9 : Int32) rfl (show Dc Y_X10_init 23 (.bipush 9) 2 25 from ⟨by decide +kernel, rfl⟩) ?_
  refine J_mnewa (n := 9) (k0 := 9) (show Dc Y_X10_init 25 (.multianewarray 18 2) 4 29 from ⟨by decide +kernel, rfl⟩) w_c_RX10_18 w_ac20 (by decide) (by decide) rfl rfl (by decide) (by decide) (by decide) (by decide) (fun p5 => ?_)
  refine J_putR (show Dc Y_X10_init 29 (.putfield 20) 3 32 from ⟨by decide +kernel, rfl⟩) w_f_RX10_20 rfl (Or.inl rfl) (fun g6 => ?_) (fun _ => rfl)
  exact J_ret0 (show Dc Y_X10_init 32 (.return_) 1 33 from ⟨by decide +kernel, rfl⟩) rfl (h0 _) (by decide) (by decide)

theorem c_X10_init {l : Launch} {D : ZD} {B0 : Nat} (x0 : Nat) (g : ZS) : ∀ r, f_X10_init x0 g = some r → zCt l D B0 yX10_init Y_X10_init [.ref x0] g none r :=
  zCt_ofF (vo := fun _ => none) (so := fun r => r) (by decide +kernel) rfl (fun _ => rfl) rfl (Nat.le_of_ble_eq_true rfl) (fun X => j_X10_init x0 g (fun _ h => h))

theorem j_X11_init {X : ZX} (x0 : Nat)   (g : ZS) {K : ZS → Prop} (h0 : ∀ g, K g → xK X none g) : J Y_X11_init X 0 0 0 [some (.ref x0), none] [] g (f_X11_init x0 g) K := by
  unfold f_X11_init
  refine J_aload_n rfl rfl (show Dc Y_X11_init 0 (.aload_n 0) 1 1 from ⟨by decide +kernel, rfl⟩) ?_
  refine J_objI (show Dc Y_X11_init 1 (.invokespecial 1) 3 4 from ⟨by decide +kernel, rfl⟩) w_m_RX11_1 w_oi w_oc (by decide) (Nat.le_of_ble_eq_true rfl) ?_
  refine J_aload_n rfl rfl (show Dc Y_X11_init 4 (.aload_n 0) 1 5 from ⟨by decide +kernel, rfl⟩) ?_
  refine J_new (show Dc Y_X11_init 5 (.new 7) 3 8 from ⟨by decide +kernel, rfl⟩) w_n_RX11_7 (by decide) (by decide) (fun p1 => ?_)
  refine J_dup rfl (show Dc Y_X11_init 8 (.dup) 1 9 from ⟨by decide +kernel, rfl⟩) ?_
  refine J_callIN (host := "ParrotsLast") (so := fun r => r) (show Dc Y_X11_init 9 (.invokespecial 9) 3 12 from ⟨by decide +kernel, rfl⟩) (by decide +kernel) w_in_X8_init rfl rfl w_cw_X8_init (c_X8_init p1.1 p1.2) rfl rfl (by decide) (Nat.le_of_ble_eq_true rfl) (by decide) (by decide) (fun g2 _ => ?_)
  refine J_putR (show Dc Y_X11_init 12 (.putfield 10) 3 15 from ⟨by decide +kernel, rfl⟩) w_f_RX11_10 rfl (Or.inl rfl) (fun g3 => ?_) (fun _ => rfl)
  refine J_aload_n rfl rfl (show Dc Y_X11_init 15 (.aload_n 0) 1 16 from ⟨by decide +kernel, rfl⟩) ?_
  refine J_new (show Dc Y_X11_init 16 (.new 16) 3 19 from ⟨by decide +kernel, rfl⟩) w_n_RX11_16 (by decide) (by decide) (fun p4 => ?_)
  refine J_dup rfl (show Dc Y_X11_init 19 (.dup) 1 20 from ⟨by decide +kernel, rfl⟩) ?_
  refine J_callIN (host := "ParrotsLast") (so := fun r => r) (show Dc Y_X11_init 20 (.invokespecial 18) 3 23 from ⟨by decide +kernel, rfl⟩) (by decide +kernel) w_in_X9_init rfl rfl w_cw_X9_init (c_X9_init p4.1 p4.2) rfl rfl (by decide) (Nat.le_of_ble_eq_true rfl) (by decide) (by decide) (fun g5 _ => ?_)
  refine J_putR (show Dc Y_X11_init 23 (.putfield 19) 3 26 from ⟨by decide +kernel, rfl⟩) w_f_RX11_19 rfl (Or.inl rfl) (fun g6 => ?_) (fun _ => rfl)
  refine J_aload_n rfl rfl (show Dc Y_X11_init 26 (.aload_n 0) 1 27 from ⟨by decide +kernel, rfl⟩) ?_
  refine J_new (show Dc Y_X11_init 27 (.new 23) 3 30 from ⟨by decide +kernel, rfl⟩) w_n_RX11_23 (by decide) (by decide) (fun p7 => ?_)
  refine J_dup rfl (show Dc Y_X11_init 30 (.dup) 1 31 from ⟨by decide +kernel, rfl⟩) ?_
  refine J_callI (so := fun r => r) (show Dc Y_X11_init 31 (.invokespecial 25) 3 34 from ⟨by decide +kernel, rfl⟩) w_m_RX11_25 w_in_X2_init rfl rfl w_cw_X2_init (c_X2_init p7.1 p7.2) rfl rfl (by decide) (Nat.le_of_ble_eq_true rfl) (by decide) (by decide) (fun g8 _ => ?_)
  refine J_putR (show Dc Y_X11_init 34 (.putfield 26) 3 37 from ⟨by decide +kernel, rfl⟩) w_f_RX11_26 rfl (Or.inl rfl) (fun g9 => ?_) (fun _ => rfl)
  refine J_aload_n rfl rfl (show Dc Y_X11_init 37 (.aload_n 0) 1 38 from ⟨by decide +kernel, rfl⟩) ?_
  refine J_bipush (8 : Int32) rfl (show Dc Y_X11_init 38 (.bipush 8) 2 40 from ⟨by decide +kernel, rfl⟩) ?_
  refine J_newa (kd := 20) (n := 8) (show Dc Y_X11_init 40 (.newarray .int) 2 42 from ⟨by decide +kernel, rfl⟩) (by decide) (by decide) rfl w_ac20 (by decide) rfl (by decide) (by decide) (by decide) (fun p10 => ?_)
  refine J_putR (show Dc Y_X11_init 42 (.putfield 30) 3 45 from ⟨by decide +kernel, rfl⟩) w_f_RX11_30 rfl (Or.inl rfl) (fun g11 => ?_) (fun _ => rfl)
  refine J_aload_n rfl rfl (show Dc Y_X11_init 45 (.aload_n 0) 1 46 from ⟨by decide +kernel, rfl⟩) ?_
  refine J_new (show Dc Y_X11_init 46 (.new 34) 3 49 from ⟨by decide +kernel, rfl⟩) w_n_RX11_34 (by decide) (by decide) (fun p12 => ?_)
  refine J_dup rfl (show Dc Y_X11_init 49 (.dup) 1 50 from ⟨by decide +kernel, rfl⟩) ?_
  refine J_callIN (host := "ParrotsLast") (so := fun r => r) (show Dc Y_X11_init 50 (.invokespecial 36) 3 53 from ⟨by decide +kernel, rfl⟩) (by decide +kernel) w_in_X5_init rfl rfl w_cw_X5_init (c_X5_init p12.1 p12.2) rfl rfl (by decide) (Nat.le_of_ble_eq_true rfl) (by decide) (by decide) (fun g13 _ => ?_)
  refine J_putR (show Dc Y_X11_init 53 (.putfield 37) 3 56 from ⟨by decide +kernel, rfl⟩) w_f_RX11_37 rfl (Or.inr rfl) (fun g14 => ?_) (fun _ => rfl)
  refine J_aload_n rfl rfl (show Dc Y_X11_init 56 (.aload_n 0) 1 57 from ⟨by decide +kernel, rfl⟩) ?_
  refine J_new (show Dc Y_X11_init 57 (.new 34) 3 60 from ⟨by decide +kernel, rfl⟩) w_n_RX11_34 (by decide) (by decide) (fun p15 => ?_)
  refine J_dup rfl (show Dc Y_X11_init 60 (.dup) 1 61 from ⟨by decide +kernel, rfl⟩) ?_
  refine J_callIN (host := "ParrotsLast") (so := fun r => r) (show Dc Y_X11_init 61 (.invokespecial 36) 3 64 from ⟨by decide +kernel, rfl⟩) (by decide +kernel) w_in_X5_init rfl rfl w_cw_X5_init (c_X5_init p15.1 p15.2) rfl rfl (by decide) (Nat.le_of_ble_eq_true rfl) (by decide) (by decide) (fun g16 _ => ?_)
  refine J_putR (show Dc Y_X11_init 64 (.putfield 41) 3 67 from ⟨by decide +kernel, rfl⟩) w_f_RX11_41 rfl (Or.inr rfl) (fun g17 => ?_) (fun _ => rfl)
  refine J_aload_n rfl rfl (show Dc Y_X11_init 67 (.aload_n 0) 1 68 from ⟨by decide +kernel, rfl⟩) ?_
  refine J_new (show Dc Y_X11_init 68 (.new 44) 3 71 from ⟨by decide +kernel, rfl⟩) w_n_RX11_44 (by decide) (by decide) (fun p18 => ?_)
  refine J_dup rfl (show Dc Y_X11_init 71 (.dup) 1 72 from ⟨by decide +kernel, rfl⟩) ?_
  refine J_callI (so := fun r => r) (show Dc Y_X11_init 72 (.invokespecial 46) 3 75 from ⟨by decide +kernel, rfl⟩) w_m_RX11_46 w_in_X6_init rfl rfl w_cw_X6_init (c_X6_init p18.1 p18.2) rfl rfl (by decide) (Nat.le_of_ble_eq_true rfl) (by decide) (by decide) (fun g19 _ => ?_)
  refine J_putR (show Dc Y_X11_init 75 (.putfield 47) 3 78 from ⟨by decide +kernel, rfl⟩) w_f_RX11_47 rfl (Or.inl rfl) (fun g20 => ?_) (fun _ => rfl)
  refine J_aload_n rfl rfl (show Dc Y_X11_init 78 (.aload_n 0) 1 79 from ⟨by decide +kernel, rfl⟩) ?_
  refine J_new (show Dc Y_X11_init 79 (.new 44) 3 82 from ⟨by decide +kernel, rfl⟩) w_n_RX11_44 (by decide) (by decide) (fun p21 => ?_)
  refine J_dup rfl (show Dc Y_X11_init 82 (.dup) 1 83 from ⟨by decide +kernel, rfl⟩) ?_
  refine J_callI (so := fun r => r) (show Dc Y_X11_init 83 (.invokespecial 46) 3 86 from ⟨by decide +kernel, rfl⟩) w_m_RX11_46 w_in_X6_init rfl rfl w_cw_X6_init (c_X6_init p21.1 p21.2) rfl rfl (by decide) (Nat.le_of_ble_eq_true rfl) (by decide) (by decide) (fun g22 _ => ?_)
  refine J_putR (show Dc Y_X11_init 86 (.putfield 51) 3 89 from ⟨by decide +kernel, rfl⟩) w_f_RX11_51 rfl (Or.inl rfl) (fun g23 => ?_) (fun _ => rfl)
  refine J_aload_n rfl rfl (show Dc Y_X11_init 89 (.aload_n 0) 1 90 from ⟨by decide +kernel, rfl⟩) ?_
  refine J_new (show Dc Y_X11_init 90 (.new 54) 3 93 from ⟨by decide +kernel, rfl⟩) w_n_RX11_54 (by decide) (by decide) (fun p24 => ?_)
  refine J_dup rfl (show Dc Y_X11_init 93 (.dup) 1 94 from ⟨by decide +kernel, rfl⟩) ?_
  refine J_callI (so := fun r => r) (show Dc Y_X11_init 94 (.invokespecial 56) 3 97 from ⟨by decide +kernel, rfl⟩) w_m_RX11_56 w_in_X4_init rfl rfl w_cw_X4_init (c_X4_init p24.1 p24.2) rfl rfl (by decide) (Nat.le_of_ble_eq_true rfl) (by decide) (by decide) (fun g25 _ => ?_)
  refine J_putR (show Dc Y_X11_init 97 (.putfield 57) 3 100 from ⟨by decide +kernel, rfl⟩) w_f_RX11_57 rfl (Or.inl rfl) (fun g26 => ?_) (fun _ => rfl)
  refine J_aload_n rfl rfl (show Dc Y_X11_init 100 (.aload_n 0) 1 101 from ⟨by decide +kernel, rfl⟩) ?_
  refine J_iconst (2 : Int32) rfl (show Dc Y_X11_init 101 (.iconst 2) 1 102 from ⟨by decide +kernel, rfl⟩) ?_
  refine J_anewa (kd := 26) (n := 2) (show Dc Y_X11_init 102 (.anewarray 44) 3 105 from ⟨by decide +kernel, rfl⟩) (by decide) rfl w_c_RX11_44 (by decide) rfl (by decide) (by decide) (by decide) (fun p27 => ?_)
  refine J_putR (show Dc Y_X11_init 105 (.putfield 61) 3 108 from ⟨by decide +kernel, rfl⟩) w_f_RX11_61 rfl (Or.inl rfl) (fun g28 => ?_) (fun _ => rfl)
  refine J_aload_n rfl rfl (show Dc Y_X11_init 108 (.aload_n 0) 1 109 from ⟨by decide +kernel, rfl⟩) ?_
  refine J_iconst (2 : Int32) rfl (show Dc Y_X11_init 109 (.iconst 2) 1 110 from ⟨by decide +kernel, rfl⟩) ?_
  refine J_newa (kd := 22) (n := 2) (show Dc Y_X11_init 110 (.newarray .boolean) 2 112 from ⟨by decide +kernel, rfl⟩) (by decide) (by decide) rfl w_ac22 (by decide) rfl (by decide) (by decide) (by decide) (fun p29 => ?_)
  refine J_putR (show Dc Y_X11_init 112 (.putfield 65) 3 115 from ⟨by decide +kernel, rfl⟩) w_f_RX11_65 rfl (Or.inl rfl) (fun g30 => ?_) (fun _ => rfl)
  refine J_aload_n rfl rfl (show Dc Y_X11_init 115 (.aload_n 0) 1 116 from ⟨by decide +kernel, rfl⟩) ?_
  refine J_new (show Dc Y_X11_init 116 (.new 69) 3 119 from ⟨by decide +kernel, rfl⟩) w_n_RX11_69 (by decide) (by decide) (fun p31 => ?_)
  refine J_dup rfl (show Dc Y_X11_init 119 (.dup) 1 120 from ⟨by decide +kernel, rfl⟩) ?_
  refine J_callIN (host := "ParrotsLast") (so := fun r => r) (show Dc Y_X11_init 120 (.invokespecial 71) 3 123 from ⟨by decide +kernel, rfl⟩) (by decide +kernel) w_in_X0_init rfl rfl w_cw_X0_init (c_X0_init p31.1 p31.2) rfl rfl (by decide) (Nat.le_of_ble_eq_true rfl) (by decide) (by decide) (fun g32 _ => ?_)
  refine J_putR (show Dc Y_X11_init 123 (.putfield 72) 3 126 from ⟨by decide +kernel, rfl⟩) w_f_RX11_72 rfl (Or.inl rfl) (fun g33 => ?_) (fun _ => rfl)
  refine J_aload_n rfl rfl (show Dc Y_X11_init 126 (.aload_n 0) 1 127 from ⟨by decide +kernel, rfl⟩) ?_
  refine J_new (show Dc Y_X11_init 127 (.new 76) 3 130 from ⟨by decide +kernel, rfl⟩) w_n_RX11_76 (by decide) (by decide) (fun p34 => ?_)
  refine J_dup rfl (show Dc Y_X11_init 130 (.dup) 1 131 from ⟨by decide +kernel, rfl⟩) ?_
  refine J_callIN (host := "ParrotsLast") (so := fun r => r) (show Dc Y_X11_init 131 (.invokespecial 78) 3 134 from ⟨by decide +kernel, rfl⟩) (by decide +kernel) w_in_X10_init rfl rfl w_cw_X10_init (c_X10_init p34.1 p34.2) rfl rfl (by decide) (Nat.le_of_ble_eq_true rfl) (by decide) (by decide) (fun g35 _ => ?_)
  refine J_putR (show Dc Y_X11_init 134 (.putfield 79) 3 137 from ⟨by decide +kernel, rfl⟩) w_f_RX11_79 rfl (Or.inl rfl) (fun g36 => ?_) (fun _ => rfl)
  refine J_aload_n rfl rfl (show Dc Y_X11_init 137 (.aload_n 0) 1 138 from ⟨by decide +kernel, rfl⟩) ?_
  refine J_new (show Dc Y_X11_init 138 (.new 76) 3 141 from ⟨by decide +kernel, rfl⟩) w_n_RX11_76 (by decide) (by decide) (fun p37 => ?_)
  refine J_dup rfl (show Dc Y_X11_init 141 (.dup) 1 142 from ⟨by decide +kernel, rfl⟩) ?_
  refine J_callIN (host := "ParrotsLast") (so := fun r => r) (show Dc Y_X11_init 142 (.invokespecial 78) 3 145 from ⟨by decide +kernel, rfl⟩) (by decide +kernel) w_in_X10_init rfl rfl w_cw_X10_init (c_X10_init p37.1 p37.2) rfl rfl (by decide) (Nat.le_of_ble_eq_true rfl) (by decide) (by decide) (fun g38 _ => ?_)
  refine J_putR (show Dc Y_X11_init 145 (.putfield 83) 3 148 from ⟨by decide +kernel, rfl⟩) w_f_RX11_83 rfl (Or.inl rfl) (fun g39 => ?_) (fun _ => rfl)
  refine J_aload_n rfl rfl (show Dc Y_X11_init 148 (.aload_n 0) 1 149 from ⟨by decide +kernel, rfl⟩) ?_
  refine J_new (show Dc Y_X11_init 149 (.new 86) 3 152 from ⟨by decide +kernel, rfl⟩) w_n_RX11_86 (by decide) (by decide) (fun p40 => ?_)
  refine J_dup rfl (show Dc Y_X11_init 152 (.dup) 1 153 from ⟨by decide +kernel, rfl⟩) ?_
  refine J_callIN (host := "ParrotsLast") (so := fun r => r) (show Dc Y_X11_init 153 (.invokespecial 88) 3 156 from ⟨by decide +kernel, rfl⟩) (by decide +kernel) w_in_X7_init rfl rfl w_cw_X7_init (c_X7_init p40.1 p40.2) rfl rfl (by decide) (Nat.le_of_ble_eq_true rfl) (by decide) (by decide) (fun g41 _ => ?_)
  refine J_putR (show Dc Y_X11_init 156 (.putfield 89) 3 159 from ⟨by decide +kernel, rfl⟩) w_f_RX11_89 rfl (Or.inl rfl) (fun g42 => ?_) (fun _ => rfl)
  refine J_aload_n rfl rfl (show Dc Y_X11_init 159 (.aload_n 0) 1 160 from ⟨by decide +kernel, rfl⟩) ?_
  refine J_new (show Dc Y_X11_init 160 (.new 93) 3 163 from ⟨by decide +kernel, rfl⟩) w_n_RX11_93 (by decide) (by decide) (fun p43 => ?_)
  refine J_dup rfl (show Dc Y_X11_init 163 (.dup) 1 164 from ⟨by decide +kernel, rfl⟩) ?_
  refine J_callIN (host := "ParrotsLast") (so := fun r => r) (show Dc Y_X11_init 164 (.invokespecial 95) 3 167 from ⟨by decide +kernel, rfl⟩) (by decide +kernel) w_in_X3_init rfl rfl w_cw_X3_init (c_X3_init p43.1 p43.2) rfl rfl (by decide) (Nat.le_of_ble_eq_true rfl) (by decide) (by decide) (fun g44 _ => ?_)
  refine J_putR (show Dc Y_X11_init 167 (.putfield 96) 3 170 from ⟨by decide +kernel, rfl⟩) w_f_RX11_96 rfl (Or.inl rfl) (fun g45 => ?_) (fun _ => rfl)
  refine J_aload_n rfl rfl (show Dc Y_X11_init 170 (.aload_n 0) 1 171 from ⟨by decide +kernel, rfl⟩) ?_
  refine J_bipush (6 : Int32) rfl (show Dc Y_X11_init 171 (.bipush 6) 2 173 from ⟨by decide +kernel, rfl⟩) ?_
  refine J_newa (kd := 20) (n := 6) (show Dc Y_X11_init 173 (.newarray .int) 2 175 from ⟨by decide +kernel, rfl⟩) (by decide) (by decide) rfl w_ac20 (by decide) rfl (by decide) (by decide) (by decide) (fun p46 => ?_)
  refine J_putR (show Dc Y_X11_init 175 (.putfield 100) 3 178 from ⟨by decide +kernel, rfl⟩) w_f_RX11_100 rfl (Or.inl rfl) (fun g47 => ?_) (fun _ => rfl)
  refine J_aload_n rfl rfl (show Dc Y_X11_init 178 (.aload_n 0) 1 179 from ⟨by decide +kernel, rfl⟩) ?_
  refine J_bipush (8 : Int32) rfl (show Dc Y_X11_init 179 (.bipush 8) 2 181 from ⟨by decide +kernel, rfl⟩) ?_
  refine J_newa (kd := 20) (n := 8) (show Dc Y_X11_init 181 (.newarray .int) 2 183 from ⟨by decide +kernel, rfl⟩) (by decide) (by decide) rfl w_ac20 (by decide) rfl (by decide) (by decide) (by decide) (fun p48 => ?_)
  refine J_putR (show Dc Y_X11_init 183 (.putfield 103) 3 186 from ⟨by decide +kernel, rfl⟩) w_f_RX11_103 rfl (Or.inl rfl) (fun g49 => ?_) (fun _ => rfl)
  refine J_iconst (0 : Int32) rfl (show Dc Y_X11_init 186 (.iconst 0) 1 187 from ⟨by decide +kernel, rfl⟩) ?_
  refine J_istore_n [some (.ref x0), some (.int (0 : Int32))] (show Dc Y_X11_init 187 (.istore_n 1) 1 188 from ⟨by decide +kernel, rfl⟩) rfl (by decide) rfl rfl ?_
  refine J_iload_n rfl rfl (show Dc Y_X11_init 188 (.iload_n 1) 1 189 from ⟨by decide +kernel, rfl⟩) ?_
  refine J_bipush (8 : Int32) rfl (show Dc Y_X11_init 189 (.bipush 8) 2 191 from ⟨by decide +kernel, rfl⟩) ?_
  refine J_ifF (c := (8 : Int32) ≤ (0 : Int32)) (t1 := none) (by decide) ?_
  refine J_icmp_ge (tg := 207) (show Dc Y_X11_init 191 (.if_icmp .ge 16) 3 194 from ⟨by decide +kernel, rfl⟩) (by decide) (fun h => absurd h (by decide)) (fun _ => ?_)
  refine J_aload_n rfl rfl (show Dc Y_X11_init 194 (.aload_n 0) 1 195 from ⟨by decide +kernel, rfl⟩) ?_
  refine J_getR (show Dc Y_X11_init 195 (.getfield 30) 3 198 from ⟨by decide +kernel, rfl⟩) w_f_RX11_30 rfl (fun v50 => ?_)
  refine J_iload_n rfl rfl (show Dc Y_X11_init 198 (.iload_n 1) 1 199 from ⟨by decide +kernel, rfl⟩) ?_
  refine J_iconst (1 : Int32) rfl (show Dc Y_X11_init 199 (.iconst 1) 1 200 from ⟨by decide +kernel, rfl⟩) ?_
  refine J_iast (show Dc Y_X11_init 200 (.iastore) 1 201 from ⟨by decide +kernel, rfl⟩) (fun g51 => ?_)
  refine J_iinc (1 : Int32) [some (.ref x0), some (.int (1 : Int32))] (show Dc Y_X11_init 201 (.iinc 1 1) 3 204 from ⟨by decide +kernel, rfl⟩) rfl rfl (by decide) rfl rfl ?_
  refine J_goto (tg := 188) (show Dc Y_X11_init 204 (.goto (-16)) 3 207 from ⟨by decide +kernel, rfl⟩) (by decide) ?_
  refine J_iload_n rfl rfl (show Dc Y_X11_init 188 (.iload_n 1) 1 189 from ⟨by decide +kernel, rfl⟩) ?_
  refine J_bipush (8 : Int32) rfl (show Dc Y_X11_init 189 (.bipush 8) 2 191 from ⟨by decide +kernel, rfl⟩) ?_
  refine J_ifF (c := (8 : Int32) ≤ (1 : Int32)) (t1 := none) (by decide) ?_
  refine J_icmp_ge (tg := 207) (show Dc Y_X11_init 191 (.if_icmp .ge 16) 3 194 from ⟨by decide +kernel, rfl⟩) (by decide) (fun h => absurd h (by decide)) (fun _ => ?_)
  refine J_aload_n rfl rfl (show Dc Y_X11_init 194 (.aload_n 0) 1 195 from ⟨by decide +kernel, rfl⟩) ?_
  refine J_getR (show Dc Y_X11_init 195 (.getfield 30) 3 198 from ⟨by decide +kernel, rfl⟩) w_f_RX11_30 rfl (fun v52 => ?_)
  refine J_iload_n rfl rfl (show Dc Y_X11_init 198 (.iload_n 1) 1 199 from ⟨by decide +kernel, rfl⟩) ?_
  refine J_iconst (1 : Int32) rfl (show Dc Y_X11_init 199 (.iconst 1) 1 200 from ⟨by decide +kernel, rfl⟩) ?_
  refine J_iast (show Dc Y_X11_init 200 (.iastore) 1 201 from ⟨by decide +kernel, rfl⟩) (fun g53 => ?_)
  refine J_iinc (1 : Int32) [some (.ref x0), some (.int (2 : Int32))] (show Dc Y_X11_init 201 (.iinc 1 1) 3 204 from ⟨by decide +kernel, rfl⟩) rfl rfl (by decide) rfl rfl ?_
  refine J_goto (tg := 188) (show Dc Y_X11_init 204 (.goto (-16)) 3 207 from ⟨by decide +kernel, rfl⟩) (by decide) ?_
  refine J_iload_n rfl rfl (show Dc Y_X11_init 188 (.iload_n 1) 1 189 from ⟨by decide +kernel, rfl⟩) ?_
  refine J_bipush (8 : Int32) rfl (show Dc Y_X11_init 189 (.bipush 8) 2 191 from ⟨by decide +kernel, rfl⟩) ?_
  refine J_ifF (c := (8 : Int32) ≤ (2 : Int32)) (t1 := none) (by decide) ?_
  refine J_icmp_ge (tg := 207) (show Dc Y_X11_init 191 (.if_icmp .ge 16) 3 194 from ⟨by decide +kernel, rfl⟩) (by decide) (fun h => absurd h (by decide)) (fun _ => ?_)
  refine J_aload_n rfl rfl (show Dc Y_X11_init 194 (.aload_n 0) 1 195 from ⟨by decide +kernel, rfl⟩) ?_
  refine J_getR (show Dc Y_X11_init 195 (.getfield 30) 3 198 from ⟨by decide +kernel, rfl⟩) w_f_RX11_30 rfl (fun v54 => ?_)
  refine J_iload_n rfl rfl (show Dc Y_X11_init 198 (.iload_n 1) 1 199 from ⟨by decide +kernel, rfl⟩) ?_
  refine J_iconst (1 : Int32) rfl (show Dc Y_X11_init 199 (.iconst 1) 1 200 from ⟨by decide +kernel, rfl⟩) ?_
  refine J_iast (show Dc Y_X11_init 200 (.iastore) 1 201 from ⟨by decide +kernel, rfl⟩) (fun g55 => ?_)
  refine J_iinc (1 : Int32) [some (.ref x0), some (.int (3 : Int32))] (show Dc Y_X11_init 201 (.iinc 1 1) 3 204 from ⟨by decide +kernel, rfl⟩) rfl rfl (by decide) rfl rfl ?_
  refine J_goto (tg := 188) (show Dc Y_X11_init 204 (.goto (-16)) 3 207 from ⟨by decide +kernel, rfl⟩) (by decide) ?_
  refine J_iload_n rfl rfl (show Dc Y_X11_init 188 (.iload_n 1) 1 189 from ⟨by decide +kernel, rfl⟩) ?_
  refine J_bipush (8 : Int32) rfl (show Dc Y_X11_init 189 (.bipush 8) 2 191 from ⟨by decide +kernel, rfl⟩) ?_
  refine J_ifF (c := (8 : Int32) ≤ (3 : Int32)) (t1 := none) (by decide) ?_
  refine J_icmp_ge (tg := 207) (show Dc Y_X11_init 191 (.if_icmp .ge 16) 3 194 from ⟨by decide +kernel, rfl⟩) (by decide) (fun h => absurd h (by decide)) (fun _ => ?_)
  refine J_aload_n rfl rfl (show Dc Y_X11_init 194 (.aload_n 0) 1 195 from ⟨by decide +kernel, rfl⟩) ?_
  refine J_getR (show Dc Y_X11_init 195 (.getfield 30) 3 198 from ⟨by decide +kernel, rfl⟩) w_f_RX11_30 rfl (fun v56 => ?_)
  refine J_iload_n rfl rfl (show Dc Y_X11_init 198 (.iload_n 1) 1 199 from ⟨by decide +kernel, rfl⟩) ?_
  refine J_iconst (1 : Int32) rfl (show Dc Y_X11_init 199 (.iconst 1) 1 200 from ⟨by decide +kernel, rfl⟩) ?_
  refine J_iast (show Dc Y_X11_init 200 (.iastore) 1 201 from ⟨by decide +kernel, rfl⟩) (fun g57 => ?_)
  refine J_iinc (1 : Int32) [some (.ref x0), some (.int (4 : Int32))] (show Dc Y_X11_init 201 (.iinc 1 1) 3 204 from ⟨by decide +kernel, rfl⟩) rfl rfl (by decide) rfl rfl ?_
  refine J_goto (tg := 188) (show Dc Y_X11_init 204 (.goto (-16)) 3 207 from ⟨by decide +kernel, rfl⟩) (by decide) ?_
  refine J_iload_n rfl rfl (show Dc Y_X11_init 188 (.iload_n 1) 1 189 from ⟨by decide +kernel, rfl⟩) ?_
  refine J_bipush (8 : Int32) rfl (show Dc Y_X11_init 189 (.bipush 8) 2 191 from ⟨by decide +kernel, rfl⟩) ?_
  refine J_ifF (c := (8 : Int32) ≤ (4 : Int32)) (t1 := none) (by decide) ?_
  refine J_icmp_ge (tg := 207) (show Dc Y_X11_init 191 (.if_icmp .ge 16) 3 194 from ⟨by decide +kernel, rfl⟩) (by decide) (fun h => absurd h (by decide)) (fun _ => ?_)
  refine J_aload_n rfl rfl (show Dc Y_X11_init 194 (.aload_n 0) 1 195 from ⟨by decide +kernel, rfl⟩) ?_
  refine J_getR (show Dc Y_X11_init 195 (.getfield 30) 3 198 from ⟨by decide +kernel, rfl⟩) w_f_RX11_30 rfl (fun v58 => ?_)
  refine J_iload_n rfl rfl (show Dc Y_X11_init 198 (.iload_n 1) 1 199 from ⟨by decide +kernel, rfl⟩) ?_
  refine J_iconst (1 : Int32) rfl (show Dc Y_X11_init 199 (.iconst 1) 1 200 from ⟨by decide +kernel, rfl⟩) ?_
  refine J_iast (show Dc Y_X11_init 200 (.iastore) 1 201 from ⟨by decide +kernel, rfl⟩) (fun g59 => ?_)
  refine J_iinc (1 : Int32) [some (.ref x0), some (.int (5 : Int32))] (show Dc Y_X11_init 201 (.iinc 1 1) 3 204 from ⟨by decide +kernel, rfl⟩) rfl rfl (by decide) rfl rfl ?_
  refine J_goto (tg := 188) (show Dc Y_X11_init 204 (.goto (-16)) 3 207 from ⟨by decide +kernel, rfl⟩) (by decide) ?_
  refine J_iload_n rfl rfl (show Dc Y_X11_init 188 (.iload_n 1) 1 189 from ⟨by decide +kernel, rfl⟩) ?_
  refine J_bipush (8 : Int32) rfl (show Dc Y_X11_init 189 (.bipush 8) 2 191 from ⟨by decide +kernel, rfl⟩) ?_
  refine J_ifF (c := (8 : Int32) ≤ (5 : Int32)) (t1 := none) (by decide) ?_
  refine J_icmp_ge (tg := 207) (show Dc Y_X11_init 191 (.if_icmp .ge 16) 3 194 from ⟨by decide +kernel, rfl⟩) (by decide) (fun h => absurd h (by decide)) (fun _ => ?_)
  refine J_aload_n rfl rfl (show Dc Y_X11_init 194 (.aload_n 0) 1 195 from ⟨by decide +kernel, rfl⟩) ?_
  refine J_getR (show Dc Y_X11_init 195 (.getfield 30) 3 198 from ⟨by decide +kernel, rfl⟩) w_f_RX11_30 rfl (fun v60 => ?_)
  refine J_iload_n rfl rfl (show Dc Y_X11_init 198 (.iload_n 1) 1 199 from ⟨by decide +kernel, rfl⟩) ?_
  refine J_iconst (1 : Int32) rfl (show Dc Y_X11_init 199 (.iconst 1) 1 200 from ⟨by decide +kernel, rfl⟩) ?_
  refine J_iast (show Dc Y_X11_init 200 (.iastore) 1 201 from ⟨by decide +kernel, rfl⟩) (fun g61 => ?_)
  refine J_iinc (1 : Int32) [some (.ref x0), some (.int (6 : Int32))] (show Dc Y_X11_init 201 (.iinc 1 1) 3 204 from ⟨by decide +kernel, rfl⟩) rfl rfl (by decide) rfl rfl ?_
  refine J_goto (tg := 188) (show Dc Y_X11_init 204 (.goto (-16)) 3 207 from ⟨by decide +kernel, rfl⟩) (by decide) ?_
  refine J_iload_n rfl rfl (show Dc Y_X11_init 188 (.iload_n 1) 1 189 from ⟨by decide +kernel, rfl⟩) ?_
  refine J_bipush (8 : Int32) rfl (show Dc Y_X11_init 189 (.bipush 8) 2 191 from ⟨by decide +kernel, rfl⟩) ?_
  refine J_ifF (c := (8 : Int32) ≤ (6 : Int32)) (t1 := none) (by decide) ?_
  refine J_icmp_ge (tg := 207) (show Dc Y_X11_init 191 (.if_icmp .ge 16) 3 194 from ⟨by decide +kernel, rfl⟩) (by decide) (fun h => absurd h (by decide)) (fun _ => ?_)
  refine J_aload_n rfl rfl (show Dc Y_X11_init 194 (.aload_n 0) 1 195 from ⟨by decide +kernel, rfl⟩) ?_
  refine J_getR (show Dc Y_X11_init 195 (.getfield 30) 3 198 from ⟨by decide +kernel, rfl⟩) w_f_RX11_30 rfl (fun v62 => ?_)
  refine J_iload_n rfl rfl (show Dc Y_X11_init 198 (.iload_n 1) 1 199 from ⟨by decide +kernel, rfl⟩) ?_
  refine J_iconst (1 : Int32) rfl (show Dc Y_X11_init 199 (.iconst 1) 1 200 from ⟨by decide +kernel, rfl⟩) ?_
  refine J_iast (show Dc Y_X11_init 200 (.iastore) 1 201 from ⟨by decide +kernel, rfl⟩) (fun g63 => ?_)
  refine J_iinc (1 : Int32) [some (.ref x0), some (.int (7 : Int32))] (show Dc Y_X11_init 201 (.iinc 1 1) 3 204 from ⟨by decide +kernel, rfl⟩) rfl rfl (by decide) rfl rfl ?_
  refine J_goto (tg := 188) (show Dc Y_X11_init 204 (.goto (-16)) 3 207 from ⟨by decide +kernel, rfl⟩) (by decide) ?_
  refine J_iload_n rfl rfl (show Dc Y_X11_init 188 (.iload_n 1) 1 189 from ⟨by decide +kernel, rfl⟩) ?_
  refine J_bipush (8 : Int32) rfl (show Dc Y_X11_init 189 (.bipush 8) 2 191 from ⟨by decide +kernel, rfl⟩) ?_
  refine J_ifF (c := (8 : Int32) ≤ (7 : Int32)) (t1 := none) (by decide) ?_
  refine J_icmp_ge (tg := 207) (show Dc Y_X11_init 191 (.if_icmp .ge 16) 3 194 from ⟨by decide +kernel, rfl⟩) (by decide) (fun h => absurd h (by decide)) (fun _ => ?_)
  refine J_aload_n rfl rfl (show Dc Y_X11_init 194 (.aload_n 0) 1 195 from ⟨by decide +kernel, rfl⟩) ?_
  refine J_getR (show Dc Y_X11_init 195 (.getfield 30) 3 198 from ⟨by decide +kernel, rfl⟩) w_f_RX11_30 rfl (fun v64 => ?_)
  refine J_iload_n rfl rfl (show Dc Y_X11_init 198 (.iload_n 1) 1 199 from ⟨by decide +kernel, rfl⟩) ?_
  refine J_iconst (1 : Int32) rfl (show Dc Y_X11_init 199 (.iconst 1) 1 200 from ⟨by decide +kernel, rfl⟩) ?_
  refine J_iast (show Dc Y_X11_init 200 (.iastore) 1 201 from ⟨by decide +kernel, rfl⟩) (fun g65 => ?_)
  refine J_iinc (1 : Int32) [some (.ref x0), some (.int (8 : Int32))] (show Dc Y_X11_init 201 (.iinc 1 1) 3 204 from ⟨by decide +kernel, rfl⟩) rfl rfl (by decide) rfl rfl ?_
  refine J_goto (tg := 188) (show Dc Y_X11_init 204 (.goto (-16)) 3 207 from ⟨by decide +kernel, rfl⟩) (by decide) ?_
  refine J_iload_n rfl rfl (show Dc Y_X11_init 188 (.iload_n 1) 1 189 from ⟨by decide +kernel, rfl⟩) ?_
  refine J_bipush (8 : Int32) rfl (show Dc Y_X11_init 189 (.bipush 8) 2 191 from ⟨by decide +kernel, rfl⟩) ?_
  refine J_ifT (c := (8 : Int32) ≤ (8 : Int32)) (t2 := none) (by decide) ?_
  refine J_icmp_ge (tg := 207) (show Dc Y_X11_init 191 (.if_icmp .ge 16) 3 194 from ⟨by decide +kernel, rfl⟩) (by decide) (fun _ => ?_) (fun h => absurd (by decide) h)
  refine J_iconst (0 : Int32) rfl (show Dc Y_X11_init 207 (.iconst 0) 1 208 from ⟨by decide +kernel, rfl⟩) ?_
  refine J_istore_n [some (.ref x0), some (.int (0 : Int32))] (show Dc Y_X11_init 208 (.istore_n 1) 1 209 from ⟨by decide +kernel, rfl⟩) rfl (by decide) rfl rfl ?_
  refine J_iload_n rfl rfl (show Dc Y_X11_init 209 (.iload_n 1) 1 210 from ⟨by decide +kernel, rfl⟩) ?_
  refine J_iconst (2 : Int32) rfl (show Dc Y_X11_init 210 (.iconst 2) 1 211 from ⟨by decide +kernel, rfl⟩) ?_
  refine J_ifF (c := (2 : Int32) ≤ (0 : Int32)) (t1 := none) (by decide) ?_
  refine J_icmp_ge (tg := 233) (show Dc Y_X11_init 211 (.if_icmp .ge 22) 3 214 from ⟨by decide +kernel, rfl⟩) (by decide) (fun h => absurd h (by decide)) (fun _ => ?_)
  refine J_aload_n rfl rfl (show Dc Y_X11_init 214 (.aload_n 0) 1 215 from ⟨by decide +kernel, rfl⟩) ?_
  refine J_getR (show Dc Y_X11_init 215 (.getfield 61) 3 218 from ⟨by decide +kernel, rfl⟩) w_f_RX11_61 rfl (fun v66 => ?_)
  refine J_iload_n rfl rfl (show Dc Y_X11_init 218 (.iload_n 1) 1 219 from ⟨by decide +kernel, rfl⟩) ?_
  refine J_new (show Dc Y_X11_init 219 (.new 44) 3 222 from ⟨by decide +kernel, rfl⟩) w_n_RX11_44 (by decide) (by decide) (fun p67 => ?_)
  refine J_dup rfl (show Dc Y_X11_init 222 (.dup) 1 223 from ⟨by decide +kernel, rfl⟩) ?_
  refine J_callI (so := fun r => r) (show Dc Y_X11_init 223 (.invokespecial 46) 3 226 from ⟨by decide +kernel, rfl⟩) w_m_RX11_46 w_in_X6_init rfl rfl w_cw_X6_init (c_X6_init p67.1 p67.2) rfl rfl (by decide) (Nat.le_of_ble_eq_true rfl) (by decide) (by decide) (fun g68 _ => ?_)
  refine J_aast (kd := 26) (by decide) (show Dc Y_X11_init 226 (.aastore) 1 227 from ⟨by decide +kernel, rfl⟩) (fun g69 => ?_)
  refine J_iinc (1 : Int32) [some (.ref x0), some (.int (1 : Int32))] (show Dc Y_X11_init 227 (.iinc 1 1) 3 230 from ⟨by decide +kernel, rfl⟩) rfl rfl (by decide) rfl rfl ?_
  refine J_goto (tg := 209) (show Dc Y_X11_init 230 (.goto (-21)) 3 233 from ⟨by decide +kernel, rfl⟩) (by decide) ?_
  refine J_iload_n rfl rfl (show Dc Y_X11_init 209 (.iload_n 1) 1 210 from ⟨by decide +kernel, rfl⟩) ?_
  refine J_iconst (2 : Int32) rfl (show Dc Y_X11_init 210 (.iconst 2) 1 211 from ⟨by decide +kernel, rfl⟩) ?_
  refine J_ifF (c := (2 : Int32) ≤ (1 : Int32)) (t1 := none) (by decide) ?_
  refine J_icmp_ge (tg := 233) (show Dc Y_X11_init 211 (.if_icmp .ge 22) 3 214 from ⟨by decide +kernel, rfl⟩) (by decide) (fun h => absurd h (by decide)) (fun _ => ?_)
  refine J_aload_n rfl rfl (show Dc Y_X11_init 214 (.aload_n 0) 1 215 from ⟨by decide +kernel, rfl⟩) ?_
  refine J_getR (show Dc Y_X11_init 215 (.getfield 61) 3 218 from ⟨by decide +kernel, rfl⟩) w_f_RX11_61 rfl (fun v70 => ?_)
  refine J_iload_n rfl rfl (show Dc Y_X11_init 218 (.iload_n 1) 1 219 from ⟨by decide +kernel, rfl⟩) ?_
  refine J_new (show Dc Y_X11_init 219 (.new 44) 3 222 from ⟨by decide +kernel, rfl⟩) w_n_RX11_44 (by decide) (by decide) (fun p71 => ?_)
  refine J_dup rfl (show Dc Y_X11_init 222 (.dup) 1 223 from ⟨by decide +kernel, rfl⟩) ?_
  refine J_callI (so := fun r => r) (show Dc Y_X11_init 223 (.invokespecial 46) 3 226 from ⟨by decide +kernel, rfl⟩) w_m_RX11_46 w_in_X6_init rfl rfl w_cw_X6_init (c_X6_init p71.1 p71.2) rfl rfl (by decide) (Nat.le_of_ble_eq_true rfl) (by decide) (by decide) (fun g72 _ => ?_)
  refine J_aast (kd := 26) (by decide) (show Dc Y_X11_init 226 (.aastore) 1 227 from ⟨by decide +kernel, rfl⟩) (fun g73 => ?_)
  refine J_iinc (1 : Int32) [some (.ref x0), some (.int (2 : Int32))] (show Dc Y_X11_init 227 (.iinc 1 1) 3 230 from ⟨by decide +kernel, rfl⟩) rfl rfl (by decide) rfl rfl ?_
  refine J_goto (tg := 209) (show Dc Y_X11_init 230 (.goto (-21)) 3 233 from ⟨by decide +kernel, rfl⟩) (by decide) ?_
  refine J_iload_n rfl rfl (show Dc Y_X11_init 209 (.iload_n 1) 1 210 from ⟨by decide +kernel, rfl⟩) ?_
  refine J_iconst (2 : Int32) rfl (show Dc Y_X11_init 210 (.iconst 2) 1 211 from ⟨by decide +kernel, rfl⟩) ?_
  refine J_ifT (c := (2 : Int32) ≤ (2 : Int32)) (t2 := none) (by decide) ?_
  refine J_icmp_ge (tg := 233) (show Dc Y_X11_init 211 (.if_icmp .ge 22) 3 214 from ⟨by decide +kernel, rfl⟩) (by decide) (fun _ => ?_) (fun h => absurd (by decide) h)
  exact J_ret0 (show Dc Y_X11_init 233 (.return_) 1 234 from ⟨by decide +kernel, rfl⟩) rfl (h0 _) (by decide) (by decide)

theorem c_X11_init {l : Launch} {D : ZD} {B0 : Nat} (x0 : Nat) (g : ZS) : ∀ r, f_X11_init x0 g = some r → zCt l D B0 yX11_init Y_X11_init [.ref x0] g none r :=
  zCt_ofF (vo := fun _ => none) (so := fun r => r) (by decide +kernel) rfl (fun _ => rfl) rfl (Nat.le_of_ble_eq_true rfl) (fun X => j_X11_init x0 g (fun _ h => h))

theorem j_X0_copyFrom {X : ZX} (x0 : Nat) (x1 : Nat)   (g : ZS) {K : ZS → Prop} (h0 : ∀ g, K g → xK X none g) : J Y_X0_copyFrom X 0 0 0 [some (.ref x0), some (.ref x1)] [] g (f_X0_copyFrom x0 x1 g) K := by
  unfold f_X0_copyFrom
  refine J_aload_n rfl rfl (show Dc Y_X0_copyFrom 0 (.aload_n 1) 1 1 from ⟨by decide +kernel, rfl⟩) ?_
  refine J_getR (show Dc Y_X0_copyFrom 1 (.getfield 9) 3 4 from ⟨by decide +kernel, rfl⟩) w_f_RX0_9 rfl (fun v1 => ?_)
  refine J_iconst (0 : Int32) rfl (show Dc Y_X0_copyFrom 4 (.iconst 0) 1 5 from ⟨by decide +kernel, rfl⟩) ?_
  refine J_aload_n rfl rfl (show Dc Y_X0_copyFrom 5 (.aload_n 0) 1 6 from ⟨by decide +kernel, rfl⟩) ?_
  refine J_getR (show Dc Y_X0_copyFrom 6 (.getfield 9) 3 9 from ⟨by decide +kernel, rfl⟩) w_f_RX0_9 rfl (fun v2 => ?_)
  refine J_iconst (0 : Int32) rfl (show Dc Y_X0_copyFrom 9 (.iconst 0) 1 10 from ⟨by decide +kernel, rfl⟩) ?_
  refine J_bipush (8 : Int32) rfl (show Dc Y_X0_copyFrom 10 (.bipush 8) 2 12 from ⟨by decide +kernel, rfl⟩) ?_
  refine J_copy (n := 8) (show Dc Y_X0_copyFrom 12 (.invokestatic 24) 3 15 from ⟨by decide +kernel, rfl⟩) w_m_RX0_24 w_acn w_acs w_aci (by decide) rfl (by decide) (by decide +kernel) (fun g3 => ?_)
  refine J_aload_n rfl rfl (show Dc Y_X0_copyFrom 15 (.aload_n 1) 1 16 from ⟨by decide +kernel, rfl⟩) ?_
  refine J_getR (show Dc Y_X0_copyFrom 16 (.getfield 15) 3 19 from ⟨by decide +kernel, rfl⟩) w_f_RX0_15 rfl (fun v4 => ?_)
  refine J_iconst (0 : Int32) rfl (show Dc Y_X0_copyFrom 19 (.iconst 0) 1 20 from ⟨by decide +kernel, rfl⟩) ?_
  refine J_aload_n rfl rfl (show Dc Y_X0_copyFrom 20 (.aload_n 0) 1 21 from ⟨by decide +kernel, rfl⟩) ?_
  refine J_getR (show Dc Y_X0_copyFrom 21 (.getfield 15) 3 24 from ⟨by decide +kernel, rfl⟩) w_f_RX0_15 rfl (fun v5 => ?_)
  refine J_iconst (0 : Int32) rfl (show Dc Y_X0_copyFrom 24 (.iconst 0) 1 25 from ⟨by decide +kernel, rfl⟩) ?_
  refine J_bipush (8 : Int32) rfl (show Dc Y_X0_copyFrom 25 (.bipush 8) 2 27 from ⟨by decide +kernel, rfl⟩) ?_
  refine J_copy (n := 8) (show Dc Y_X0_copyFrom 27 (.invokestatic 24) 3 30 from ⟨by decide +kernel, rfl⟩) w_m_RX0_24 w_acn w_acs w_aci (by decide) rfl (by decide) (by decide +kernel) (fun g6 => ?_)
  refine J_aload_n rfl rfl (show Dc Y_X0_copyFrom 30 (.aload_n 1) 1 31 from ⟨by decide +kernel, rfl⟩) ?_
  refine J_getR (show Dc Y_X0_copyFrom 31 (.getfield 18) 3 34 from ⟨by decide +kernel, rfl⟩) w_f_RX0_18 rfl (fun v7 => ?_)
  refine J_iconst (0 : Int32) rfl (show Dc Y_X0_copyFrom 34 (.iconst 0) 1 35 from ⟨by decide +kernel, rfl⟩) ?_
  refine J_aload_n rfl rfl (show Dc Y_X0_copyFrom 35 (.aload_n 0) 1 36 from ⟨by decide +kernel, rfl⟩) ?_
  refine J_getR (show Dc Y_X0_copyFrom 36 (.getfield 18) 3 39 from ⟨by decide +kernel, rfl⟩) w_f_RX0_18 rfl (fun v8 => ?_)
  refine J_iconst (0 : Int32) rfl (show Dc Y_X0_copyFrom 39 (.iconst 0) 1 40 from ⟨by decide +kernel, rfl⟩) ?_
  refine J_bipush (8 : Int32) rfl (show Dc Y_X0_copyFrom 40 (.bipush 8) 2 42 from ⟨by decide +kernel, rfl⟩) ?_
  refine J_copy (n := 8) (show Dc Y_X0_copyFrom 42 (.invokestatic 24) 3 45 from ⟨by decide +kernel, rfl⟩) w_m_RX0_24 w_acn w_acs w_aci (by decide) rfl (by decide) (by decide +kernel) (fun g9 => ?_)
  refine J_aload_n rfl rfl (show Dc Y_X0_copyFrom 45 (.aload_n 1) 1 46 from ⟨by decide +kernel, rfl⟩) ?_
  refine J_getR (show Dc Y_X0_copyFrom 46 (.getfield 21) 3 49 from ⟨by decide +kernel, rfl⟩) w_f_RX0_21 rfl (fun v10 => ?_)
  refine J_iconst (0 : Int32) rfl (show Dc Y_X0_copyFrom 49 (.iconst 0) 1 50 from ⟨by decide +kernel, rfl⟩) ?_
  refine J_aload_n rfl rfl (show Dc Y_X0_copyFrom 50 (.aload_n 0) 1 51 from ⟨by decide +kernel, rfl⟩) ?_
  refine J_getR (show Dc Y_X0_copyFrom 51 (.getfield 21) 3 54 from ⟨by decide +kernel, rfl⟩) w_f_RX0_21 rfl (fun v11 => ?_)
  refine J_iconst (0 : Int32) rfl (show Dc Y_X0_copyFrom 54 (.iconst 0) 1 55 from ⟨by decide +kernel, rfl⟩) ?_
  refine J_bipush (8 : Int32) rfl (show Dc Y_X0_copyFrom 55 (.bipush 8) 2 57 from ⟨by decide +kernel, rfl⟩) ?_
  refine J_copy (n := 8) (show Dc Y_X0_copyFrom 57 (.invokestatic 24) 3 60 from ⟨by decide +kernel, rfl⟩) w_m_RX0_24 w_acn w_acs w_aci (by decide) rfl (by decide) (by decide +kernel) (fun g12 => ?_)
  refine J_aload_n rfl rfl (show Dc Y_X0_copyFrom 60 (.aload_n 0) 1 61 from ⟨by decide +kernel, rfl⟩) ?_
  refine J_aload_n rfl rfl (show Dc Y_X0_copyFrom 61 (.aload_n 1) 1 62 from ⟨by decide +kernel, rfl⟩) ?_
  refine J_getI (show Dc Y_X0_copyFrom 62 (.getfield 30) 3 65 from ⟨by decide +kernel, rfl⟩) w_f_RX0_30 rfl (fun v13 => ?_)
  refine J_putI (show Dc Y_X0_copyFrom 65 (.putfield 30) 3 68 from ⟨by decide +kernel, rfl⟩) w_f_RX0_30 rfl rfl (fun g14 => ?_) (fun h => by cases h)
  refine J_aload_n rfl rfl (show Dc Y_X0_copyFrom 68 (.aload_n 0) 1 69 from ⟨by decide +kernel, rfl⟩) ?_
  refine J_aload_n rfl rfl (show Dc Y_X0_copyFrom 69 (.aload_n 1) 1 70 from ⟨by decide +kernel, rfl⟩) ?_
  refine J_getI (show Dc Y_X0_copyFrom 70 (.getfield 34) 3 73 from ⟨by decide +kernel, rfl⟩) w_f_RX0_34 rfl (fun v15 => ?_)
  refine J_putI (show Dc Y_X0_copyFrom 73 (.putfield 34) 3 76 from ⟨by decide +kernel, rfl⟩) w_f_RX0_34 rfl rfl (fun g16 => ?_) (fun h => by cases h)
  refine J_aload_n rfl rfl (show Dc Y_X0_copyFrom 76 (.aload_n 0) 1 77 from ⟨by decide +kernel, rfl⟩) ?_
  refine J_aload_n rfl rfl (show Dc Y_X0_copyFrom 77 (.aload_n 1) 1 78 from ⟨by decide +kernel, rfl⟩) ?_
  refine J_getI (show Dc Y_X0_copyFrom 78 (.getfield 37) 3 81 from ⟨by decide +kernel, rfl⟩) w_f_RX0_37 rfl (fun v17 => ?_)
  refine J_putZ (show Dc Y_X0_copyFrom 81 (.putfield 37) 3 84 from ⟨by decide +kernel, rfl⟩) w_f_RX0_37 rfl rfl (fun g18 => ?_) (fun h => by cases h)
  refine J_aload_n rfl rfl (show Dc Y_X0_copyFrom 84 (.aload_n 0) 1 85 from ⟨by decide +kernel, rfl⟩) ?_
  refine J_aload_n rfl rfl (show Dc Y_X0_copyFrom 85 (.aload_n 1) 1 86 from ⟨by decide +kernel, rfl⟩) ?_
  refine J_getI (show Dc Y_X0_copyFrom 86 (.getfield 41) 3 89 from ⟨by decide +kernel, rfl⟩) w_f_RX0_41 rfl (fun v19 => ?_)
  refine J_putI (show Dc Y_X0_copyFrom 89 (.putfield 41) 3 92 from ⟨by decide +kernel, rfl⟩) w_f_RX0_41 rfl rfl (fun g20 => ?_) (fun h => by cases h)
  refine J_aload_n rfl rfl (show Dc Y_X0_copyFrom 92 (.aload_n 0) 1 93 from ⟨by decide +kernel, rfl⟩) ?_
  refine J_aload_n rfl rfl (show Dc Y_X0_copyFrom 93 (.aload_n 1) 1 94 from ⟨by decide +kernel, rfl⟩) ?_
  refine J_getI (show Dc Y_X0_copyFrom 94 (.getfield 44) 3 97 from ⟨by decide +kernel, rfl⟩) w_f_RX0_44 rfl (fun v21 => ?_)
  refine J_putI (show Dc Y_X0_copyFrom 97 (.putfield 44) 3 100 from ⟨by decide +kernel, rfl⟩) w_f_RX0_44 rfl rfl (fun g22 => ?_) (fun h => by cases h)
  exact J_ret0 (show Dc Y_X0_copyFrom 100 (.return_) 1 101 from ⟨by decide +kernel, rfl⟩) rfl (h0 _) (by decide) (by decide)

theorem c_X0_copyFrom {l : Launch} {D : ZD} {B0 : Nat} (x0 : Nat) (x1 : Nat) (g : ZS) : ∀ r, f_X0_copyFrom x0 x1 g = some r → zCt l D B0 yX0_copyFrom Y_X0_copyFrom [.ref x0, .ref x1] g none r :=
  zCt_ofF (vo := fun _ => none) (so := fun r => r) (by decide +kernel) rfl (fun h => by cases h) rfl (Nat.le_of_ble_eq_true rfl) (fun X => j_X0_copyFrom x0 x1 g (fun _ h => h))

theorem j_X6_copyFrom_18 {X : ZX} (N : Nat) (x0 : Nat) (x1 : Nat) (x2 : Int32)   (g : ZS) {K : ((Int32 × ZS) ⊕ ZS) → Prop} (h0 : ∀ g, K (.inr g) → xK X none g) (hL18 : ∀ s, K (.inl s) → zG Y_X6_copyFrom X 0 0 18 [some (.ref x0), some (.ref x1), some (.int s.1)] [] s.2) : J Y_X6_copyFrom X 0 0 18 [some (.ref x0), some (.ref x1), some (.int x2)] [] g (f_X6_copyFrom_18 N x0 x1 x2 g) K := by
  unfold f_X6_copyFrom_18
  refine J_iload_n rfl rfl (show Dc Y_X6_copyFrom 18 (.iload_n 2) 1 19 from ⟨by decide +kernel, rfl⟩) ?_
  refine J_aload_n rfl rfl (show Dc Y_X6_copyFrom 19 (.aload_n 0) 1 20 from ⟨by decide +kernel, rfl⟩) ?_
  refine J_getI (show Dc Y_X6_copyFrom 20 (.getfield 18) 3 23 from ⟨by decide +kernel, rfl⟩) w_f_RX6_18 rfl (fun v1 => ?_)
  refine J_icmp_ge (tg := 47) (show Dc Y_X6_copyFrom 23 (.if_icmp .ge 24) 3 26 from ⟨by decide +kernel, rfl⟩) (by decide) (fun h => ?_) (fun h => ?_)
  · refine J_map (f := Sum.inr) (fun _ h => h) ?_
    exact J_ret0 (show Dc Y_X6_copyFrom 47 (.return_) 1 48 from ⟨by decide +kernel, rfl⟩) rfl (h0 _) (by decide) (by decide)
  · refine J_aload_n rfl rfl (show Dc Y_X6_copyFrom 26 (.aload_n 0) 1 27 from ⟨by decide +kernel, rfl⟩) ?_
    refine J_getR (show Dc Y_X6_copyFrom 27 (.getfield 11) 3 30 from ⟨by decide +kernel, rfl⟩) w_f_RX6_11 rfl (fun v2 => ?_)
    refine J_iload_n rfl rfl (show Dc Y_X6_copyFrom 30 (.iload_n 2) 1 31 from ⟨by decide +kernel, rfl⟩) ?_
    refine J_aald (kd := 25) (by decide) (by decide) (show Dc Y_X6_copyFrom 31 (.aaload) 1 32 from ⟨by decide +kernel, rfl⟩) (fun v3 => ?_)
    refine J_aload_n rfl rfl (show Dc Y_X6_copyFrom 32 (.aload_n 1) 1 33 from ⟨by decide +kernel, rfl⟩) ?_
    refine J_getR (show Dc Y_X6_copyFrom 33 (.getfield 11) 3 36 from ⟨by decide +kernel, rfl⟩) w_f_RX6_11 rfl (fun v4 => ?_)
    refine J_iload_n rfl rfl (show Dc Y_X6_copyFrom 36 (.iload_n 2) 1 37 from ⟨by decide +kernel, rfl⟩) ?_
    refine J_aald (kd := 25) (by decide) (by decide) (show Dc Y_X6_copyFrom 37 (.aaload) 1 38 from ⟨by decide +kernel, rfl⟩) (fun v5 => ?_)
    refine J_callVv (fun r => r) (show Dc Y_X6_copyFrom 38 (.invokevirtual 25) 3 41 from ⟨by decide +kernel, rfl⟩) w_m_RX6_25 w_in_X0_copyFrom rfl w_se_X0_copyFrom w_cw_X0_copyFrom (c_X0_copyFrom v3 v5 g) rfl rfl (by decide) (Nat.le_of_ble_eq_true rfl) (by decide) (by decide) (fun g6 => ?_)
    refine J_iinc (1 : Int32) [some (.ref x0), some (.ref x1), some (.int (x2 + (1 : Int32)))] (show Dc Y_X6_copyFrom 41 (.iinc 2 1) 3 44 from ⟨by decide +kernel, rfl⟩) rfl rfl (by decide) rfl rfl ?_
    refine J_goto (tg := 18) (show Dc Y_X6_copyFrom 44 (.goto (-26)) 3 47 from ⟨by decide +kernel, rfl⟩) (by decide) ?_
    exact J_leaf (fun h => hL18 (x2 + (1 : Int32), g6) h)

theorem j_X6_copyFrom {X : ZX} (N : Nat) (x0 : Nat) (x1 : Nat)   (g : ZS) {K : ZS → Prop} (h0 : ∀ g, K g → xK X none g) : J Y_X6_copyFrom X 0 0 0 [some (.ref x0), some (.ref x1), none] [] g (f_X6_copyFrom N x0 x1 g) K := by
  unfold f_X6_copyFrom
  refine J_aload_n rfl rfl (show Dc Y_X6_copyFrom 0 (.aload_n 0) 1 1 from ⟨by decide +kernel, rfl⟩) ?_
  refine J_aload_n rfl rfl (show Dc Y_X6_copyFrom 1 (.aload_n 1) 1 2 from ⟨by decide +kernel, rfl⟩) ?_
  refine J_getI (show Dc Y_X6_copyFrom 2 (.getfield 18) 3 5 from ⟨by decide +kernel, rfl⟩) w_f_RX6_18 rfl (fun v1 => ?_)
  refine J_putI (show Dc Y_X6_copyFrom 5 (.putfield 18) 3 8 from ⟨by decide +kernel, rfl⟩) w_f_RX6_18 rfl rfl (fun g2 => ?_) (fun h => by cases h)
  refine J_aload_n rfl rfl (show Dc Y_X6_copyFrom 8 (.aload_n 0) 1 9 from ⟨by decide +kernel, rfl⟩) ?_
  refine J_aload_n rfl rfl (show Dc Y_X6_copyFrom 9 (.aload_n 1) 1 10 from ⟨by decide +kernel, rfl⟩) ?_
  refine J_getI (show Dc Y_X6_copyFrom 10 (.getfield 22) 3 13 from ⟨by decide +kernel, rfl⟩) w_f_RX6_22 rfl (fun v3 => ?_)
  refine J_putI (show Dc Y_X6_copyFrom 13 (.putfield 22) 3 16 from ⟨by decide +kernel, rfl⟩) w_f_RX6_22 rfl rfl (fun g4 => ?_) (fun h => by cases h)
  refine J_iconst (0 : Int32) rfl (show Dc Y_X6_copyFrom 16 (.iconst 0) 1 17 from ⟨by decide +kernel, rfl⟩) ?_
  refine J_istore_n [some (.ref x0), some (.ref x1), some (.int (0 : Int32))] (show Dc Y_X6_copyFrom 17 (.istore_n 2) 1 18 from ⟨by decide +kernel, rfl⟩) rfl (by decide) rfl rfl ?_
  exact J_loop (X := X) (K := K) (uc := fun _ => 0) (us := fun _ => 0) (lf := fun s => [some (.ref x0), some (.ref x1), some (.int s.1)]) (gf := fun s => s.2) (fun s => j_X6_copyFrom_18 (K := zKl Y_X6_copyFrom X 18 (fun _ => 0) (fun _ => 0) (fun s => [some (.ref x0), some (.ref x1), some (.int s.1)]) (fun s => s.2) K) N x0 x1 s.1 s.2 h0 (fun s h => h)) N ((0 : Int32), g4)

theorem c_X6_copyFrom {l : Launch} {D : ZD} {B0 : Nat} (N : Nat) (x0 : Nat) (x1 : Nat) (g : ZS) : ∀ r, f_X6_copyFrom N x0 x1 g = some r → zCt l D B0 yX6_copyFrom Y_X6_copyFrom [.ref x0, .ref x1] g none r :=
  zCt_ofF (vo := fun _ => none) (so := fun r => r) (by decide +kernel) rfl (fun h => by cases h) rfl (Nat.le_of_ble_eq_true rfl) (fun X => j_X6_copyFrom N x0 x1 g (fun _ h => h))

theorem j_X4_add_13 {X : ZX} (N : Nat) (x0 : Nat) (x1 : Nat)   (g : ZS) {K : ZS → Prop} (h0 : ∀ g, K g → xK X none g) : J Y_X4_add X 0 0 13 [some (.ref x0), some (.ref x1)] [] g (f_X4_add_13 N x0 x1 g) K := by
  unfold f_X4_add_13
  refine J_aload_n rfl rfl (show Dc Y_X4_add 13 (.aload_n 0) 1 14 from ⟨by decide +kernel, rfl⟩) ?_
  refine J_getR (show Dc Y_X4_add 14 (.getfield 11) 3 17 from ⟨by decide +kernel, rfl⟩) w_f_RX4_11 rfl (fun v1 => ?_)
  refine J_aload_n rfl rfl (show Dc Y_X4_add 17 (.aload_n 0) 1 18 from ⟨by decide +kernel, rfl⟩) ?_
  refine J_getI (show Dc Y_X4_add 18 (.getfield 18) 3 21 from ⟨by decide +kernel, rfl⟩) w_f_RX4_18 rfl (fun v2 => ?_)
  refine J_aald (kd := 26) (by decide) (by decide) (show Dc Y_X4_add 21 (.aaload) 1 22 from ⟨by decide +kernel, rfl⟩) (fun v3 => ?_)
  refine J_aload_n rfl rfl (show Dc Y_X4_add 22 (.aload_n 1) 1 23 from ⟨by decide +kernel, rfl⟩) ?_
  refine J_callVv (fun r => r) (show Dc Y_X4_add 23 (.invokevirtual 25) 3 26 from ⟨by decide +kernel, rfl⟩) w_m_RX4_25 w_in_X6_copyFrom rfl w_se_X6_copyFrom w_cw_X6_copyFrom (c_X6_copyFrom N v3 x1 g) rfl rfl (by decide) (Nat.le_of_ble_eq_true rfl) (by decide) (by decide) (fun g4 => ?_)
  refine J_aload_n rfl rfl (show Dc Y_X4_add 26 (.aload_n 0) 1 27 from ⟨by decide +kernel, rfl⟩) ?_
  refine J_dup rfl (show Dc Y_X4_add 27 (.dup) 1 28 from ⟨by decide +kernel, rfl⟩) ?_
  refine J_getI (show Dc Y_X4_add 28 (.getfield 18) 3 31 from ⟨by decide +kernel, rfl⟩) w_f_RX4_18 rfl (fun v5 => ?_)
  refine J_iconst (1 : Int32) rfl (show Dc Y_X4_add 31 (.iconst 1) 1 32 from ⟨by decide +kernel, rfl⟩) ?_
  refine J_iadd (show Dc Y_X4_add 32 (.iadd) 1 33 from ⟨by decide +kernel, rfl⟩) ?_
  refine J_putI (show Dc Y_X4_add 33 (.putfield 18) 3 36 from ⟨by decide +kernel, rfl⟩) w_f_RX4_18 rfl rfl (fun g6 => ?_) (fun h => by cases h)
  exact J_ret0 (show Dc Y_X4_add 36 (.return_) 1 37 from ⟨by decide +kernel, rfl⟩) rfl (h0 _) (by decide) (by decide)

theorem j_X4_add {X : ZX} (N : Nat) (x0 : Nat) (x1 : Nat)   (g : ZS) {K : ZS → Prop} (h0 : ∀ g, K g → xK X none g) : J Y_X4_add X 0 0 0 [some (.ref x0), some (.ref x1)] [] g (f_X4_add N x0 x1 g) K := by
  unfold f_X4_add
  refine J_aload_n rfl rfl (show Dc Y_X4_add 0 (.aload_n 0) 1 1 from ⟨by decide +kernel, rfl⟩) ?_
  refine J_getI (show Dc Y_X4_add 1 (.getfield 18) 3 4 from ⟨by decide +kernel, rfl⟩) w_f_RX4_18 rfl (fun v1 => ?_)
  refine J_bipush (12 : Int32) rfl (show Dc Y_X4_add 4 (.bipush 12) 2 6 from ⟨by decide +kernel, rfl⟩) ?_
  refine J_icmp_lt (tg := 13) (show Dc Y_X4_add 6 (.if_icmp .lt 7) 3 9 from ⟨by decide +kernel, rfl⟩) (by decide) (fun h => ?_) (fun h => ?_)
  · exact j_X4_add_13 N x0 x1 g h0
  · refine J_aload_n rfl rfl (show Dc Y_X4_add 9 (.aload_n 0) 1 10 from ⟨by decide +kernel, rfl⟩) ?_
    refine J_callVv (fun r => r) (show Dc Y_X4_add 10 (.invokevirtual 22) 3 13 from ⟨by decide +kernel, rfl⟩) w_m_RX4_22 w_in_X4_dropOldest rfl w_se_X4_dropOldest w_cw_X4_dropOldest (c_X4_dropOldest N x0 g) rfl rfl (by decide) (Nat.le_of_ble_eq_true rfl) (by decide) (by decide) (fun g2 => ?_)
    exact j_X4_add_13 N x0 x1 g2 h0

theorem c_X4_add {l : Launch} {D : ZD} {B0 : Nat} (N : Nat) (x0 : Nat) (x1 : Nat) (g : ZS) : ∀ r, f_X4_add N x0 x1 g = some r → zCt l D B0 yX4_add Y_X4_add [.ref x0, .ref x1] g none r :=
  zCt_ofF (vo := fun _ => none) (so := fun r => r) (by decide +kernel) rfl (fun h => by cases h) rfl (Nat.le_of_ble_eq_true rfl) (fun X => j_X4_add N x0 x1 g (fun _ h => h))

theorem j_X11_days_10 {X : ZX} (N : Nat)    (g : ZS) {K : (Int32 × ZS) → Prop} (h0 : ∀ v g, K (v, g) → xK X (some (.int v)) g) : J Y_X11_days X 0 0 10 [none, none, none] [] g (f_X11_days_10 N g) K := by
  unfold f_X11_days_10
  refine J_iconst (-1 : Int32) rfl (show Dc Y_X11_days 10 (.iconst (-1)) 1 11 from ⟨by decide +kernel, rfl⟩) ?_
  exact J_reti (show Dc Y_X11_days 11 (.ireturn) 1 12 from ⟨by decide +kernel, rfl⟩) rfl (h0 _ _) (by decide) (by decide)

theorem j_X11_days_58 {X : ZX} (N : Nat) (x0 : Nat) (x2 : Int32)   (g : ZS) {K : ((Int32 × ZS) ⊕ (Int32 × ZS)) → Prop} (h0 : ∀ v g, K (.inr (v, g)) → xK X (some (.int v)) g) (hL58 : ∀ s, K (.inl s) → zG Y_X11_days X 0 0 58 [some (.ref x0), none, some (.int s.1)] [] s.2) : J Y_X11_days X 0 0 58 [some (.ref x0), none, some (.int x2)] [] g (f_X11_days_58 N x0 x2 g) K := by
  unfold f_X11_days_58
  refine J_iload_n rfl rfl (show Dc Y_X11_days 58 (.iload_n 2) 1 59 from ⟨by decide +kernel, rfl⟩) ?_
  refine J_aload_n rfl rfl (show Dc Y_X11_days 59 (.aload_n 0) 1 60 from ⟨by decide +kernel, rfl⟩) ?_
  refine J_getR (show Dc Y_X11_days 60 (.getfield 47) 3 63 from ⟨by decide +kernel, rfl⟩) w_f_RX11_47 rfl (fun v1 => ?_)
  refine J_getI (show Dc Y_X11_days 63 (.getfield 146) 3 66 from ⟨by decide +kernel, rfl⟩) w_f_RX11_146 rfl (fun v2 => ?_)
  refine J_icmp_ge (tg := 113) (show Dc Y_X11_days 66 (.if_icmp .ge 47) 3 69 from ⟨by decide +kernel, rfl⟩) (by decide) (fun h => ?_) (fun h => ?_)
  · refine J_map (f := Sum.inr) (fun _ h => h) ?_
    refine J_aload_n rfl rfl (show Dc Y_X11_days 113 (.aload_n 0) 1 114 from ⟨by decide +kernel, rfl⟩) ?_
    refine J_getR (show Dc Y_X11_days 114 (.getfield 47) 3 117 from ⟨by decide +kernel, rfl⟩) w_f_RX11_47 rfl (fun v3 => ?_)
    refine J_getI (show Dc Y_X11_days 117 (.getfield 219) 3 120 from ⟨by decide +kernel, rfl⟩) w_f_RX11_219 rfl (fun v4 => ?_)
    exact J_reti (show Dc Y_X11_days 120 (.ireturn) 1 121 from ⟨by decide +kernel, rfl⟩) rfl (h0 _ _) (by decide) (by decide)
  · refine J_aload_n rfl rfl (show Dc Y_X11_days 69 (.aload_n 0) 1 70 from ⟨by decide +kernel, rfl⟩) ?_
    refine J_getR (show Dc Y_X11_days 70 (.getfield 19) 3 73 from ⟨by decide +kernel, rfl⟩) w_f_RX11_19 rfl (fun v5 => ?_)
    refine J_aload_n rfl rfl (show Dc Y_X11_days 73 (.aload_n 0) 1 74 from ⟨by decide +kernel, rfl⟩) ?_
    refine J_getR (show Dc Y_X11_days 74 (.getfield 47) 3 77 from ⟨by decide +kernel, rfl⟩) w_f_RX11_47 rfl (fun v6 => ?_)
    refine J_getR (show Dc Y_X11_days 77 (.getfield 171) 3 80 from ⟨by decide +kernel, rfl⟩) w_f_RX11_171 rfl (fun v7 => ?_)
    refine J_iload_n rfl rfl (show Dc Y_X11_days 80 (.iload_n 2) 1 81 from ⟨by decide +kernel, rfl⟩) ?_
    refine J_aald (kd := 25) (by decide) (by decide) (show Dc Y_X11_days 81 (.aaload) 1 82 from ⟨by decide +kernel, rfl⟩) (fun v8 => ?_)
    refine J_callVi (fun r => r) (fun _ => g) (show Dc Y_X11_days 82 (.invokevirtual 188) 3 85 from ⟨by decide +kernel, rfl⟩) w_m_RX11_188 w_in_X0_known rfl w_se_X0_known w_cw_X0_known (c_X0_known N v8 g) rfl rfl (by decide) (Nat.le_of_ble_eq_true rfl) (by decide) (by decide) (fun v9 => ?_)
    refine J_aload_n rfl rfl (show Dc Y_X11_days 85 (.aload_n 0) 1 86 from ⟨by decide +kernel, rfl⟩) ?_
    refine J_getR (show Dc Y_X11_days 86 (.getfield 51) 3 89 from ⟨by decide +kernel, rfl⟩) w_f_RX11_51 rfl (fun v10 => ?_)
    refine J_getR (show Dc Y_X11_days 89 (.getfield 171) 3 92 from ⟨by decide +kernel, rfl⟩) w_f_RX11_171 rfl (fun v11 => ?_)
    refine J_iload_n rfl rfl (show Dc Y_X11_days 92 (.iload_n 2) 1 93 from ⟨by decide +kernel, rfl⟩) ?_
    refine J_aald (kd := 25) (by decide) (by decide) (show Dc Y_X11_days 93 (.aaload) 1 94 from ⟨by decide +kernel, rfl⟩) (fun v12 => ?_)
    refine J_callVi (fun r => r) (fun _ => g) (show Dc Y_X11_days 94 (.invokevirtual 188) 3 97 from ⟨by decide +kernel, rfl⟩) w_m_RX11_188 w_in_X0_known rfl w_se_X0_known w_cw_X0_known (c_X0_known N v12 g) rfl rfl (by decide) (Nat.le_of_ble_eq_true rfl) (by decide) (by decide) (fun v13 => ?_)
    refine J_iconst (-1 : Int32) rfl (show Dc Y_X11_days 97 (.iconst (-1)) 1 98 from ⟨by decide +kernel, rfl⟩) ?_
    refine J_ixor (show Dc Y_X11_days 98 (.ixor) 1 99 from ⟨by decide +kernel, rfl⟩) ?_
    refine J_iand (show Dc Y_X11_days 99 (.iand) 1 100 from ⟨by decide +kernel, rfl⟩) ?_
    refine J_callSi (fun r => r) (fun _ => g) (show Dc Y_X11_days 100 (.invokestatic 255) 3 103 from ⟨by decide +kernel, rfl⟩) w_m_RX11_255 w_st_J6_bitCount_0f7a4 w_cw_J6_bitCount_0f7a4 (c_J6_bitCount_0f7a4 (v9 &&& (v13 ^^^ (-1 : Int32))) g) rfl rfl (by decide) (Nat.le_of_ble_eq_true rfl) (by decide) (by decide) (fun v14 => ?_)
    refine J_i2l (show Dc Y_X11_days 103 (.i2l) 1 104 from ⟨by decide +kernel, rfl⟩) ?_
    refine J_callVv (fun r => r) (show Dc Y_X11_days 104 (.invokevirtual 260) 3 107 from ⟨by decide +kernel, rfl⟩) w_m_RX11_260 w_in_X9_add rfl w_se_X9_add w_cw_X9_add (c_X9_add v5 v14.toInt64 g) rfl rfl (by decide) (Nat.le_of_ble_eq_true rfl) (by decide) (by decide) (fun g15 => ?_)
    refine J_iinc (1 : Int32) [some (.ref x0), none, some (.int (x2 + (1 : Int32)))] (show Dc Y_X11_days 107 (.iinc 2 1) 3 110 from ⟨by decide +kernel, rfl⟩) rfl rfl (by decide) rfl rfl ?_
    refine J_goto (tg := 58) (show Dc Y_X11_days 110 (.goto (-52)) 3 113 from ⟨by decide +kernel, rfl⟩) (by decide) ?_
    exact J_leaf (fun h => hL58 (x2 + (1 : Int32), g15) h)

theorem j_X11_days_48 {X : ZX} (N : Nat) (x0 : Nat)   (g : ZS) {K : (Int32 × ZS) → Prop} (h0 : ∀ v g, K (v, g) → xK X (some (.int v)) g) : J Y_X11_days X 0 0 48 [some (.ref x0), none, none] [] g (f_X11_days_48 N x0 g) K := by
  unfold f_X11_days_48
  refine J_aload_n rfl rfl (show Dc Y_X11_days 48 (.aload_n 0) 1 49 from ⟨by decide +kernel, rfl⟩) ?_
  refine J_getR (show Dc Y_X11_days 49 (.getfield 19) 3 52 from ⟨by decide +kernel, rfl⟩) w_f_RX11_19 rfl (fun v1 => ?_)
  refine J_iconst (0 : Int32) rfl (show Dc Y_X11_days 52 (.iconst 0) 1 53 from ⟨by decide +kernel, rfl⟩) ?_
  refine J_putI (show Dc Y_X11_days 53 (.putfield 254) 3 56 from ⟨by decide +kernel, rfl⟩) w_f_RX11_254 rfl rfl (fun g2 => ?_) (fun h => by cases h)
  refine J_iconst (0 : Int32) rfl (show Dc Y_X11_days 56 (.iconst 0) 1 57 from ⟨by decide +kernel, rfl⟩) ?_
  refine J_istore_n [some (.ref x0), none, some (.int (0 : Int32))] (show Dc Y_X11_days 57 (.istore_n 2) 1 58 from ⟨by decide +kernel, rfl⟩) rfl (by decide) rfl rfl ?_
  exact J_loop (X := X) (K := K) (uc := fun _ => 0) (us := fun _ => 0) (lf := fun s => [some (.ref x0), none, some (.int s.1)]) (gf := fun s => s.2) (fun s => j_X11_days_58 (K := zKl Y_X11_days X 58 (fun _ => 0) (fun _ => 0) (fun s => [some (.ref x0), none, some (.int s.1)]) (fun s => s.2) K) N x0 s.1 s.2 h0 (fun s h => h)) N ((0 : Int32), g2)

theorem j_X11_days {X : ZX} (N : Nat) (x0 : Nat) (x1 : Int32)   (g : ZS) {K : (Int32 × ZS) → Prop} (h0 : ∀ v g, K (v, g) → xK X (some (.int v)) g) : J Y_X11_days X 0 0 0 [some (.ref x0), some (.int x1), none] [] g (f_X11_days N x0 x1 g) K := by
  unfold f_X11_days
  refine J_iload_n rfl rfl (show Dc Y_X11_days 0 (.iload_n 1) 1 1 from ⟨by decide +kernel, rfl⟩) ?_
  refine J_if_lt (tg := 10) (show Dc Y_X11_days 1 (.ifCond .lt 9) 3 4 from ⟨by decide +kernel, rfl⟩) (by decide) (fun h => ?_) (fun h => ?_)
  · refine J_mask [false, false, false] ?_
    exact j_X11_days_10 N g h0
  · refine J_iload_n rfl rfl (show Dc Y_X11_days 4 (.iload_n 1) 1 5 from ⟨by decide +kernel, rfl⟩) ?_
    refine J_bipush (60 : Int32) rfl (show Dc Y_X11_days 5 (.bipush 60) 2 7 from ⟨by decide +kernel, rfl⟩) ?_
    refine J_icmp_le (tg := 12) (show Dc Y_X11_days 7 (.if_icmp .le 5) 3 10 from ⟨by decide +kernel, rfl⟩) (by decide) (fun h => ?_) (fun h => ?_)
    · refine J_aload_n rfl rfl (show Dc Y_X11_days 12 (.aload_n 0) 1 13 from ⟨by decide +kernel, rfl⟩) ?_
      refine J_getR (show Dc Y_X11_days 13 (.getfield 51) 3 16 from ⟨by decide +kernel, rfl⟩) w_f_RX11_51 rfl (fun v1 => ?_)
      refine J_aload_n rfl rfl (show Dc Y_X11_days 16 (.aload_n 0) 1 17 from ⟨by decide +kernel, rfl⟩) ?_
      refine J_getR (show Dc Y_X11_days 17 (.getfield 47) 3 20 from ⟨by decide +kernel, rfl⟩) w_f_RX11_47 rfl (fun v2 => ?_)
      refine J_callVv (fun r => r) (show Dc Y_X11_days 20 (.invokevirtual 244) 3 23 from ⟨by decide +kernel, rfl⟩) w_m_RX11_244 w_in_X6_copyFrom rfl w_se_X6_copyFrom w_cw_X6_copyFrom (c_X6_copyFrom N v1 v2 g) rfl rfl (by decide) (Nat.le_of_ble_eq_true rfl) (by decide) (by decide) (fun g3 => ?_)
      refine J_aload_n rfl rfl (show Dc Y_X11_days 23 (.aload_n 0) 1 24 from ⟨by decide +kernel, rfl⟩) ?_
      refine J_aload_n rfl rfl (show Dc Y_X11_days 24 (.aload_n 0) 1 25 from ⟨by decide +kernel, rfl⟩) ?_
      refine J_getR (show Dc Y_X11_days 25 (.getfield 47) 3 28 from ⟨by decide +kernel, rfl⟩) w_f_RX11_47 rfl (fun v4 => ?_)
      refine J_iload_n rfl rfl (show Dc Y_X11_days 28 (.iload_n 1) 1 29 from ⟨by decide +kernel, rfl⟩) ?_
      refine J_callVi (fun r => r.1) (fun r => r.2) (show Dc Y_X11_days 29 (.invokevirtual 248) 3 32 from ⟨by decide +kernel, rfl⟩) w_m_RX11_248 w_in_X11_passDays rfl w_se_X11_passDays w_cw_X11_passDays (c_X11_passDays N x0 v4 x1 g3) rfl rfl (by decide) (Nat.le_of_ble_eq_true rfl) (by decide) (by decide) (fun r5 => ?_)
      refine J_pop rfl (show Dc Y_X11_days 32 (.pop) 1 33 from ⟨by decide +kernel, rfl⟩) ?_
      refine J_iload_n rfl rfl (show Dc Y_X11_days 33 (.iload_n 1) 1 34 from ⟨by decide +kernel, rfl⟩) ?_
      refine J_if_le (tg := 48) (show Dc Y_X11_days 34 (.ifCond .le 14) 3 37 from ⟨by decide +kernel, rfl⟩) (by decide) (fun h => ?_) (fun h => ?_)
      · refine J_mask [true, false, false] ?_
        exact j_X11_days_48 N x0 r5.2 h0
      · refine J_aload_n rfl rfl (show Dc Y_X11_days 37 (.aload_n 0) 1 38 from ⟨by decide +kernel, rfl⟩) ?_
        refine J_getR (show Dc Y_X11_days 38 (.getfield 57) 3 41 from ⟨by decide +kernel, rfl⟩) w_f_RX11_57 rfl (fun v6 => ?_)
        refine J_aload_n rfl rfl (show Dc Y_X11_days 41 (.aload_n 0) 1 42 from ⟨by decide +kernel, rfl⟩) ?_
        refine J_getR (show Dc Y_X11_days 42 (.getfield 51) 3 45 from ⟨by decide +kernel, rfl⟩) w_f_RX11_51 rfl (fun v7 => ?_)
        refine J_callVv (fun r => r) (show Dc Y_X11_days 45 (.invokevirtual 252) 3 48 from ⟨by decide +kernel, rfl⟩) w_m_RX11_252 w_in_X4_add rfl w_se_X4_add w_cw_X4_add (c_X4_add N v6 v7 r5.2) rfl rfl (by decide) (Nat.le_of_ble_eq_true rfl) (by decide) (by decide) (fun g8 => ?_)
        refine J_mask [true, false, false] ?_
        exact j_X11_days_48 N x0 g8 h0
    · refine J_mask [false, false, false] ?_
      exact j_X11_days_10 N g h0

theorem c_X11_days {l : Launch} {D : ZD} {B0 : Nat} (N : Nat) (x0 : Nat) (x1 : Int32) (g : ZS) : ∀ r, f_X11_days N x0 x1 g = some r → zCt l D B0 yX11_days Y_X11_days [.ref x0, .int x1] g (some (.int r.1)) r.2 :=
  zCt_ofF (vo := fun r => some (.int r.1)) (so := fun r => r.2) (by decide +kernel) rfl (fun h => by cases h) rfl (Nat.le_of_ble_eq_true rfl) (fun X => j_X11_days N x0 x1 g (fun _ _ h => h))

theorem j_X11_remembered_15 {X : ZX} (N : Nat) (x1 : Int32)   (g : ZS) {K : (Int32 × ZS) → Prop} (h0 : ∀ v g, K (v, g) → xK X (some (.int v)) g) : J Y_X11_remembered X 0 0 15 [none, some (.int x1)] [] g (f_X11_remembered_15 N x1 g) K := by
  unfold f_X11_remembered_15
  refine J_iload_n rfl rfl (show Dc Y_X11_remembered 15 (.iload_n 1) 1 16 from ⟨by decide +kernel, rfl⟩) ?_
  exact J_reti (show Dc Y_X11_remembered 16 (.ireturn) 1 17 from ⟨by decide +kernel, rfl⟩) rfl (h0 _ _) (by decide) (by decide)

theorem j_X11_remembered {X : ZX} (N : Nat) (x0 : Nat) (x1 : Int32)   (g : ZS) {K : (Int32 × ZS) → Prop} (h0 : ∀ v g, K (v, g) → xK X (some (.int v)) g) : J Y_X11_remembered X 0 0 0 [some (.ref x0), some (.int x1)] [] g (f_X11_remembered N x0 x1 g) K := by
  unfold f_X11_remembered
  refine J_iload_n rfl rfl (show Dc Y_X11_remembered 0 (.iload_n 1) 1 1 from ⟨by decide +kernel, rfl⟩) ?_
  refine J_if_lt (tg := 15) (show Dc Y_X11_remembered 1 (.ifCond .lt 14) 3 4 from ⟨by decide +kernel, rfl⟩) (by decide) (fun h => ?_) (fun h => ?_)
  · refine J_mask [false, true] ?_
    exact j_X11_remembered_15 N x1 g h0
  · refine J_aload_n rfl rfl (show Dc Y_X11_remembered 4 (.aload_n 0) 1 5 from ⟨by decide +kernel, rfl⟩) ?_
    refine J_getR (show Dc Y_X11_remembered 5 (.getfield 57) 3 8 from ⟨by decide +kernel, rfl⟩) w_f_RX11_57 rfl (fun v1 => ?_)
    refine J_aload_n rfl rfl (show Dc Y_X11_remembered 8 (.aload_n 0) 1 9 from ⟨by decide +kernel, rfl⟩) ?_
    refine J_getR (show Dc Y_X11_remembered 9 (.getfield 51) 3 12 from ⟨by decide +kernel, rfl⟩) w_f_RX11_51 rfl (fun v2 => ?_)
    refine J_callVv (fun r => r) (show Dc Y_X11_remembered 12 (.invokevirtual 252) 3 15 from ⟨by decide +kernel, rfl⟩) w_m_RX11_252 w_in_X4_add rfl w_se_X4_add w_cw_X4_add (c_X4_add N v1 v2 g) rfl rfl (by decide) (Nat.le_of_ble_eq_true rfl) (by decide) (by decide) (fun g3 => ?_)
    refine J_mask [false, true] ?_
    exact j_X11_remembered_15 N x1 g3 h0

theorem c_X11_remembered {l : Launch} {D : ZD} {B0 : Nat} (N : Nat) (x0 : Nat) (x1 : Int32) (g : ZS) : ∀ r, f_X11_remembered N x0 x1 g = some r → zCt l D B0 yX11_remembered Y_X11_remembered [.ref x0, .int x1] g (some (.int r.1)) r.2 :=
  zCt_ofF (vo := fun r => some (.int r.1)) (so := fun r => r.2) (by decide +kernel) rfl (fun h => by cases h) rfl (Nat.le_of_ble_eq_true rfl) (fun X => j_X11_remembered N x0 x1 g (fun _ _ h => h))

theorem j_X11_move {X : ZX} (N : Nat) (x0 : Nat) (x1 : Int32) (x2 : Int32)   (g : ZS) {K : (Int32 × ZS) → Prop} (h0 : ∀ v g, K (v, g) → xK X (some (.int v)) g) : J Y_X11_move X 0 0 0 [some (.ref x0), some (.int x1), some (.int x2)] [] g (f_X11_move N x0 x1 x2 g) K := by
  unfold f_X11_move
  refine J_aload_n rfl rfl (show Dc Y_X11_move 0 (.aload_n 0) 1 1 from ⟨by decide +kernel, rfl⟩) ?_
  refine J_getR (show Dc Y_X11_move 1 (.getfield 51) 3 4 from ⟨by decide +kernel, rfl⟩) w_f_RX11_51 rfl (fun v1 => ?_)
  refine J_aload_n rfl rfl (show Dc Y_X11_move 4 (.aload_n 0) 1 5 from ⟨by decide +kernel, rfl⟩) ?_
  refine J_getR (show Dc Y_X11_move 5 (.getfield 47) 3 8 from ⟨by decide +kernel, rfl⟩) w_f_RX11_47 rfl (fun v2 => ?_)
  refine J_callVv (fun r => r) (show Dc Y_X11_move 8 (.invokevirtual 244) 3 11 from ⟨by decide +kernel, rfl⟩) w_m_RX11_244 w_in_X6_copyFrom rfl w_se_X6_copyFrom w_cw_X6_copyFrom (c_X6_copyFrom N v1 v2 g) rfl rfl (by decide) (Nat.le_of_ble_eq_true rfl) (by decide) (by decide) (fun g3 => ?_)
  refine J_aload_n rfl rfl (show Dc Y_X11_move 11 (.aload_n 0) 1 12 from ⟨by decide +kernel, rfl⟩) ?_
  refine J_aload_n rfl rfl (show Dc Y_X11_move 12 (.aload_n 0) 1 13 from ⟨by decide +kernel, rfl⟩) ?_
  refine J_getR (show Dc Y_X11_move 13 (.getfield 47) 3 16 from ⟨by decide +kernel, rfl⟩) w_f_RX11_47 rfl (fun v4 => ?_)
  refine J_iload_n rfl rfl (show Dc Y_X11_move 16 (.iload_n 1) 1 17 from ⟨by decide +kernel, rfl⟩) ?_
  refine J_iload_n rfl rfl (show Dc Y_X11_move 17 (.iload_n 2) 1 18 from ⟨by decide +kernel, rfl⟩) ?_
  refine J_callSi (fun r => r.1) (fun r => r.2) (show Dc Y_X11_move 18 (.invokestatic 271) 3 21 from ⟨by decide +kernel, rfl⟩) w_m_RX11_271 w_st_X11_bring w_cw_X11_bring (c_X11_bring v4 x1 x2 g3) rfl rfl (by decide) (Nat.le_of_ble_eq_true rfl) (by decide) (by decide) (fun r5 => ?_)
  refine J_callVi (fun r => r.1) (fun r => r.2) (show Dc Y_X11_move 21 (.invokevirtual 275) 3 24 from ⟨by decide +kernel, rfl⟩) w_m_RX11_275 w_in_X11_remembered rfl w_se_X11_remembered w_cw_X11_remembered (c_X11_remembered N x0 r5.1 r5.2) rfl rfl (by decide) (Nat.le_of_ble_eq_true rfl) (by decide) (by decide) (fun r6 => ?_)
  exact J_reti (show Dc Y_X11_move 24 (.ireturn) 1 25 from ⟨by decide +kernel, rfl⟩) rfl (h0 _ _) (by decide) (by decide)

theorem c_X11_move {l : Launch} {D : ZD} {B0 : Nat} (N : Nat) (x0 : Nat) (x1 : Int32) (x2 : Int32) (g : ZS) : ∀ r, f_X11_move N x0 x1 x2 g = some r → zCt l D B0 yX11_move Y_X11_move [.ref x0, .int x1, .int x2] g (some (.int r.1)) r.2 :=
  zCt_ofF (vo := fun r => some (.int r.1)) (so := fun r => r.2) (by decide +kernel) rfl (fun h => by cases h) rfl (Nat.le_of_ble_eq_true rfl) (fun X => j_X11_move N x0 x1 x2 g (fun _ _ h => h))

theorem j_X11_cloth {X : ZX} (N : Nat) (x0 : Nat) (x1 : Int32)   (g : ZS) {K : (Int32 × ZS) → Prop} (h0 : ∀ v g, K (v, g) → xK X (some (.int v)) g) : J Y_X11_cloth X 0 0 0 [some (.ref x0), some (.int x1)] [] g (f_X11_cloth N x0 x1 g) K := by
  unfold f_X11_cloth
  refine J_aload_n rfl rfl (show Dc Y_X11_cloth 0 (.aload_n 0) 1 1 from ⟨by decide +kernel, rfl⟩) ?_
  refine J_getR (show Dc Y_X11_cloth 1 (.getfield 51) 3 4 from ⟨by decide +kernel, rfl⟩) w_f_RX11_51 rfl (fun v1 => ?_)
  refine J_aload_n rfl rfl (show Dc Y_X11_cloth 4 (.aload_n 0) 1 5 from ⟨by decide +kernel, rfl⟩) ?_
  refine J_getR (show Dc Y_X11_cloth 5 (.getfield 47) 3 8 from ⟨by decide +kernel, rfl⟩) w_f_RX11_47 rfl (fun v2 => ?_)
  refine J_callVv (fun r => r) (show Dc Y_X11_cloth 8 (.invokevirtual 244) 3 11 from ⟨by decide +kernel, rfl⟩) w_m_RX11_244 w_in_X6_copyFrom rfl w_se_X6_copyFrom w_cw_X6_copyFrom (c_X6_copyFrom N v1 v2 g) rfl rfl (by decide) (Nat.le_of_ble_eq_true rfl) (by decide) (by decide) (fun g3 => ?_)
  refine J_aload_n rfl rfl (show Dc Y_X11_cloth 11 (.aload_n 0) 1 12 from ⟨by decide +kernel, rfl⟩) ?_
  refine J_aload_n rfl rfl (show Dc Y_X11_cloth 12 (.aload_n 0) 1 13 from ⟨by decide +kernel, rfl⟩) ?_
  refine J_iload_n rfl rfl (show Dc Y_X11_cloth 13 (.iload_n 1) 1 14 from ⟨by decide +kernel, rfl⟩) ?_
  refine J_callVi (fun r => r.1) (fun r => r.2) (show Dc Y_X11_cloth 14 (.invokevirtual 278) 3 17 from ⟨by decide +kernel, rfl⟩) w_m_RX11_278 w_in_X11_cover rfl w_se_X11_cover w_cw_X11_cover (c_X11_cover N x0 x1 g3) rfl rfl (by decide) (Nat.le_of_ble_eq_true rfl) (by decide) (by decide) (fun r4 => ?_)
  refine J_callVi (fun r => r.1) (fun r => r.2) (show Dc Y_X11_cloth 17 (.invokevirtual 275) 3 20 from ⟨by decide +kernel, rfl⟩) w_m_RX11_275 w_in_X11_remembered rfl w_se_X11_remembered w_cw_X11_remembered (c_X11_remembered N x0 r4.1 r4.2) rfl rfl (by decide) (Nat.le_of_ble_eq_true rfl) (by decide) (by decide) (fun r5 => ?_)
  exact J_reti (show Dc Y_X11_cloth 20 (.ireturn) 1 21 from ⟨by decide +kernel, rfl⟩) rfl (h0 _ _) (by decide) (by decide)

theorem c_X11_cloth {l : Launch} {D : ZD} {B0 : Nat} (N : Nat) (x0 : Nat) (x1 : Int32) (g : ZS) : ∀ r, f_X11_cloth N x0 x1 g = some r → zCt l D B0 yX11_cloth Y_X11_cloth [.ref x0, .int x1] g (some (.int r.1)) r.2 :=
  zCt_ofF (vo := fun r => some (.int r.1)) (so := fun r => r.2) (by decide +kernel) rfl (fun h => by cases h) rfl (Nat.le_of_ble_eq_true rfl) (fun X => j_X11_cloth N x0 x1 g (fun _ _ h => h))

theorem j_X11_teach {X : ZX} (N : Nat) (x0 : Nat) (x1 : Int32) (x2 : Int32)   (g : ZS) {K : (Int32 × ZS) → Prop} (h0 : ∀ v g, K (v, g) → xK X (some (.int v)) g) : J Y_X11_teach X 0 0 0 [some (.ref x0), some (.int x1), some (.int x2)] [] g (f_X11_teach N x0 x1 x2 g) K := by
  unfold f_X11_teach
  refine J_aload_n rfl rfl (show Dc Y_X11_teach 0 (.aload_n 0) 1 1 from ⟨by decide +kernel, rfl⟩) ?_
  refine J_getR (show Dc Y_X11_teach 1 (.getfield 51) 3 4 from ⟨by decide +kernel, rfl⟩) w_f_RX11_51 rfl (fun v1 => ?_)
  refine J_aload_n rfl rfl (show Dc Y_X11_teach 4 (.aload_n 0) 1 5 from ⟨by decide +kernel, rfl⟩) ?_
  refine J_getR (show Dc Y_X11_teach 5 (.getfield 47) 3 8 from ⟨by decide +kernel, rfl⟩) w_f_RX11_47 rfl (fun v2 => ?_)
  refine J_callVv (fun r => r) (show Dc Y_X11_teach 8 (.invokevirtual 244) 3 11 from ⟨by decide +kernel, rfl⟩) w_m_RX11_244 w_in_X6_copyFrom rfl w_se_X6_copyFrom w_cw_X6_copyFrom (c_X6_copyFrom N v1 v2 g) rfl rfl (by decide) (Nat.le_of_ble_eq_true rfl) (by decide) (by decide) (fun g3 => ?_)
  refine J_aload_n rfl rfl (show Dc Y_X11_teach 11 (.aload_n 0) 1 12 from ⟨by decide +kernel, rfl⟩) ?_
  refine J_aload_n rfl rfl (show Dc Y_X11_teach 12 (.aload_n 0) 1 13 from ⟨by decide +kernel, rfl⟩) ?_
  refine J_getR (show Dc Y_X11_teach 13 (.getfield 47) 3 16 from ⟨by decide +kernel, rfl⟩) w_f_RX11_47 rfl (fun v4 => ?_)
  refine J_iload_n rfl rfl (show Dc Y_X11_teach 16 (.iload_n 1) 1 17 from ⟨by decide +kernel, rfl⟩) ?_
  refine J_iload_n rfl rfl (show Dc Y_X11_teach 17 (.iload_n 2) 1 18 from ⟨by decide +kernel, rfl⟩) ?_
  refine J_callSi (fun r => r.1) (fun r => r.2) (show Dc Y_X11_teach 18 (.invokestatic 283) 3 21 from ⟨by decide +kernel, rfl⟩) w_m_RX11_283 w_st_X11_feed w_cw_X11_feed (c_X11_feed v4 x1 x2 g3) rfl rfl (by decide) (Nat.le_of_ble_eq_true rfl) (by decide) (by decide) (fun r5 => ?_)
  refine J_callVi (fun r => r.1) (fun r => r.2) (show Dc Y_X11_teach 21 (.invokevirtual 275) 3 24 from ⟨by decide +kernel, rfl⟩) w_m_RX11_275 w_in_X11_remembered rfl w_se_X11_remembered w_cw_X11_remembered (c_X11_remembered N x0 r5.1 r5.2) rfl rfl (by decide) (Nat.le_of_ble_eq_true rfl) (by decide) (by decide) (fun r6 => ?_)
  exact J_reti (show Dc Y_X11_teach 24 (.ireturn) 1 25 from ⟨by decide +kernel, rfl⟩) rfl (h0 _ _) (by decide) (by decide)

theorem c_X11_teach {l : Launch} {D : ZD} {B0 : Nat} (N : Nat) (x0 : Nat) (x1 : Int32) (x2 : Int32) (g : ZS) : ∀ r, f_X11_teach N x0 x1 x2 g = some r → zCt l D B0 yX11_teach Y_X11_teach [.ref x0, .int x1, .int x2] g (some (.int r.1)) r.2 :=
  zCt_ofF (vo := fun r => some (.int r.1)) (so := fun r => r.2) (by decide +kernel) rfl (fun h => by cases h) rfl (Nat.le_of_ble_eq_true rfl) (fun X => j_X11_teach N x0 x1 x2 g (fun _ _ h => h))

theorem j_X11_speak {X : ZX} (N : Nat) (x0 : Nat) (x1 : Int32)   (g : ZS) {K : (Int32 × ZS) → Prop} (h0 : ∀ v g, K (v, g) → xK X (some (.int v)) g) : J Y_X11_speak X 0 0 0 [some (.ref x0), some (.int x1)] [] g (f_X11_speak N x0 x1 g) K := by
  unfold f_X11_speak
  refine J_aload_n rfl rfl (show Dc Y_X11_speak 0 (.aload_n 0) 1 1 from ⟨by decide +kernel, rfl⟩) ?_
  refine J_getR (show Dc Y_X11_speak 1 (.getfield 51) 3 4 from ⟨by decide +kernel, rfl⟩) w_f_RX11_51 rfl (fun v1 => ?_)
  refine J_aload_n rfl rfl (show Dc Y_X11_speak 4 (.aload_n 0) 1 5 from ⟨by decide +kernel, rfl⟩) ?_
  refine J_getR (show Dc Y_X11_speak 5 (.getfield 47) 3 8 from ⟨by decide +kernel, rfl⟩) w_f_RX11_47 rfl (fun v2 => ?_)
  refine J_callVv (fun r => r) (show Dc Y_X11_speak 8 (.invokevirtual 244) 3 11 from ⟨by decide +kernel, rfl⟩) w_m_RX11_244 w_in_X6_copyFrom rfl w_se_X6_copyFrom w_cw_X6_copyFrom (c_X6_copyFrom N v1 v2 g) rfl rfl (by decide) (Nat.le_of_ble_eq_true rfl) (by decide) (by decide) (fun g3 => ?_)
  refine J_aload_n rfl rfl (show Dc Y_X11_speak 11 (.aload_n 0) 1 12 from ⟨by decide +kernel, rfl⟩) ?_
  refine J_aload_n rfl rfl (show Dc Y_X11_speak 12 (.aload_n 0) 1 13 from ⟨by decide +kernel, rfl⟩) ?_
  refine J_aload_n rfl rfl (show Dc Y_X11_speak 13 (.aload_n 0) 1 14 from ⟨by decide +kernel, rfl⟩) ?_
  refine J_getR (show Dc Y_X11_speak 14 (.getfield 47) 3 17 from ⟨by decide +kernel, rfl⟩) w_f_RX11_47 rfl (fun v4 => ?_)
  refine J_iload_n rfl rfl (show Dc Y_X11_speak 17 (.iload_n 1) 1 18 from ⟨by decide +kernel, rfl⟩) ?_
  refine J_callVi (fun r => r.1) (fun r => r.2) (show Dc Y_X11_speak 18 (.invokevirtual 286) 3 21 from ⟨by decide +kernel, rfl⟩) w_m_RX11_286 w_in_X11_utter rfl w_se_X11_utter w_cw_X11_utter (c_X11_utter N x0 v4 x1 g3) rfl rfl (by decide) (Nat.le_of_ble_eq_true rfl) (by decide) (by decide) (fun r5 => ?_)
  refine J_callVi (fun r => r.1) (fun r => r.2) (show Dc Y_X11_speak 21 (.invokevirtual 275) 3 24 from ⟨by decide +kernel, rfl⟩) w_m_RX11_275 w_in_X11_remembered rfl w_se_X11_remembered w_cw_X11_remembered (c_X11_remembered N x0 r5.1 r5.2) rfl rfl (by decide) (Nat.le_of_ble_eq_true rfl) (by decide) (by decide) (fun r6 => ?_)
  exact J_reti (show Dc Y_X11_speak 24 (.ireturn) 1 25 from ⟨by decide +kernel, rfl⟩) rfl (h0 _ _) (by decide) (by decide)

theorem c_X11_speak {l : Launch} {D : ZD} {B0 : Nat} (N : Nat) (x0 : Nat) (x1 : Int32) (g : ZS) : ∀ r, f_X11_speak N x0 x1 g = some r → zCt l D B0 yX11_speak Y_X11_speak [.ref x0, .int x1] g (some (.int r.1)) r.2 :=
  zCt_ofF (vo := fun r => some (.int r.1)) (so := fun r => r.2) (by decide +kernel) rfl (fun h => by cases h) rfl (Nat.le_of_ble_eq_true rfl) (fun X => j_X11_speak N x0 x1 g (fun _ _ h => h))

theorem j_X11_hush_31 {X : ZX} (N : Nat) (x1 : Int32)   (g : ZS) {K : (Int32 × ZS) → Prop} (h0 : ∀ v g, K (v, g) → xK X (some (.int v)) g) : J Y_X11_hush X 0 0 31 [none, some (.int x1)] [] g (f_X11_hush_31 N x1 g) K := by
  unfold f_X11_hush_31
  refine J_iload_n rfl rfl (show Dc Y_X11_hush 31 (.iload_n 1) 1 32 from ⟨by decide +kernel, rfl⟩) ?_
  exact J_reti (show Dc Y_X11_hush 32 (.ireturn) 1 33 from ⟨by decide +kernel, rfl⟩) rfl (h0 _ _) (by decide) (by decide)

theorem j_X11_hush {X : ZX} (N : Nat) (x0 : Nat)   (g : ZS) {K : (Int32 × ZS) → Prop} (h0 : ∀ v g, K (v, g) → xK X (some (.int v)) g) : J Y_X11_hush X 0 0 0 [some (.ref x0), none] [] g (f_X11_hush N x0 g) K := by
  unfold f_X11_hush
  refine J_aload_n rfl rfl (show Dc Y_X11_hush 0 (.aload_n 0) 1 1 from ⟨by decide +kernel, rfl⟩) ?_
  refine J_getR (show Dc Y_X11_hush 1 (.getfield 51) 3 4 from ⟨by decide +kernel, rfl⟩) w_f_RX11_51 rfl (fun v1 => ?_)
  refine J_aload_n rfl rfl (show Dc Y_X11_hush 4 (.aload_n 0) 1 5 from ⟨by decide +kernel, rfl⟩) ?_
  refine J_getR (show Dc Y_X11_hush 5 (.getfield 47) 3 8 from ⟨by decide +kernel, rfl⟩) w_f_RX11_47 rfl (fun v2 => ?_)
  refine J_callVv (fun r => r) (show Dc Y_X11_hush 8 (.invokevirtual 244) 3 11 from ⟨by decide +kernel, rfl⟩) w_m_RX11_244 w_in_X6_copyFrom rfl w_se_X6_copyFrom w_cw_X6_copyFrom (c_X6_copyFrom N v1 v2 g) rfl rfl (by decide) (Nat.le_of_ble_eq_true rfl) (by decide) (by decide) (fun g3 => ?_)
  refine J_aload_n rfl rfl (show Dc Y_X11_hush 11 (.aload_n 0) 1 12 from ⟨by decide +kernel, rfl⟩) ?_
  refine J_callVi (fun r => r.1) (fun r => r.2) (show Dc Y_X11_hush 12 (.invokevirtual 295) 3 15 from ⟨by decide +kernel, rfl⟩) w_m_RX11_295 w_in_X11_silence rfl w_se_X11_silence w_cw_X11_silence (c_X11_silence N x0 g3) rfl rfl (by decide) (Nat.le_of_ble_eq_true rfl) (by decide) (by decide) (fun r4 => ?_)
  refine J_istore_n [some (.ref x0), some (.int r4.1)] (show Dc Y_X11_hush 15 (.istore_n 1) 1 16 from ⟨by decide +kernel, rfl⟩) rfl (by decide) rfl rfl ?_
  refine J_iload_n rfl rfl (show Dc Y_X11_hush 16 (.iload_n 1) 1 17 from ⟨by decide +kernel, rfl⟩) ?_
  refine J_if_le (tg := 31) (show Dc Y_X11_hush 17 (.ifCond .le 14) 3 20 from ⟨by decide +kernel, rfl⟩) (by decide) (fun h => ?_) (fun h => ?_)
  · refine J_mask [false, true] ?_
    exact j_X11_hush_31 N r4.1 r4.2 h0
  · refine J_aload_n rfl rfl (show Dc Y_X11_hush 20 (.aload_n 0) 1 21 from ⟨by decide +kernel, rfl⟩) ?_
    refine J_getR (show Dc Y_X11_hush 21 (.getfield 57) 3 24 from ⟨by decide +kernel, rfl⟩) w_f_RX11_57 rfl (fun v5 => ?_)
    refine J_aload_n rfl rfl (show Dc Y_X11_hush 24 (.aload_n 0) 1 25 from ⟨by decide +kernel, rfl⟩) ?_
    refine J_getR (show Dc Y_X11_hush 25 (.getfield 51) 3 28 from ⟨by decide +kernel, rfl⟩) w_f_RX11_51 rfl (fun v6 => ?_)
    refine J_callVv (fun r => r) (show Dc Y_X11_hush 28 (.invokevirtual 252) 3 31 from ⟨by decide +kernel, rfl⟩) w_m_RX11_252 w_in_X4_add rfl w_se_X4_add w_cw_X4_add (c_X4_add N v5 v6 r4.2) rfl rfl (by decide) (Nat.le_of_ble_eq_true rfl) (by decide) (by decide) (fun g7 => ?_)
    refine J_mask [false, true] ?_
    exact j_X11_hush_31 N r4.1 g7 h0

theorem c_X11_hush {l : Launch} {D : ZD} {B0 : Nat} (N : Nat) (x0 : Nat) (g : ZS) : ∀ r, f_X11_hush N x0 g = some r → zCt l D B0 yX11_hush Y_X11_hush [.ref x0] g (some (.int r.1)) r.2 :=
  zCt_ofF (vo := fun r => some (.int r.1)) (so := fun r => r.2) (by decide +kernel) rfl (fun h => by cases h) rfl (Nat.le_of_ble_eq_true rfl) (fun X => j_X11_hush N x0 g (fun _ _ h => h))

theorem j_X11_holdTrial_48 {X : ZX} (N : Nat) (x0 : Nat) (x1 : Int32) (x2 : Int32) (x3 : Int32)   (g : ZS) {K : ((Int32 × Int32 × Int32 × ZS) ⊕ (Int32 × ZS)) → Prop} (h0 : ∀ v g, K (.inr (v, g)) → xK X (some (.int v)) g) (hL17 : ∀ s, K (.inl s) → zG Y_X11_holdTrial X 0 0 17 [some (.ref x0), some (.int s.1), some (.int s.2.1), some (.int s.2.2.1)] [] s.2.2.2) : J Y_X11_holdTrial X 0 0 48 [some (.ref x0), some (.int x1), some (.int x2), some (.int x3)] [] g (f_X11_holdTrial_48 N x0 x1 x2 x3 g) K := by
  unfold f_X11_holdTrial_48
  refine J_iload_n rfl rfl (show Dc Y_X11_holdTrial 48 (.iload_n 3) 1 49 from ⟨by decide +kernel, rfl⟩) ?_
  refine J_iconst (1 : Int32) rfl (show Dc Y_X11_holdTrial 49 (.iconst 1) 1 50 from ⟨by decide +kernel, rfl⟩) ?_
  refine J_iconst (0 : Int32) rfl (show Dc Y_X11_holdTrial 50 (.iconst 0) 1 51 from ⟨by decide +kernel, rfl⟩) ?_
  refine J_aload_n rfl rfl (show Dc Y_X11_holdTrial 51 (.aload_n 0) 1 52 from ⟨by decide +kernel, rfl⟩) ?_
  refine J_getR (show Dc Y_X11_holdTrial 52 (.getfield 10) 3 55 from ⟨by decide +kernel, rfl⟩) w_f_RX11_10 rfl (fun v1 => ?_)
  refine J_iload_n rfl rfl (show Dc Y_X11_holdTrial 55 (.iload_n 3) 1 56 from ⟨by decide +kernel, rfl⟩) ?_
  refine J_callVi (fun r => r) (fun _ => g) (show Dc Y_X11_holdTrial 56 (.invokevirtual 147) 3 59 from ⟨by decide +kernel, rfl⟩) w_m_RX11_147 w_in_X8_at rfl w_se_X8_at w_cw_X8_at (c_X8_at v1 x3 g) rfl rfl (by decide) (Nat.le_of_ble_eq_true rfl) (by decide) (by decide) (fun v2 => ?_)
  refine J_callSi (fun r => r) (fun _ => g) (show Dc Y_X11_holdTrial 59 (.invokestatic 307) 3 62 from ⟨by decide +kernel, rfl⟩) w_m_RX11_307 w_st_X11_signsBehind w_cw_X11_signsBehind (c_X11_signsBehind v2 g) rfl rfl (by decide) (Nat.le_of_ble_eq_true rfl) (by decide) (by decide) (fun v3 => ?_)
  refine J_callSi (fun r => r) (fun _ => g) (show Dc Y_X11_holdTrial 62 (.invokestatic 238) 3 65 from ⟨by decide +kernel, rfl⟩) w_m_RX11_238 w_st_J9_max_7cf53 w_cw_J9_max_7cf53 (c_J9_max_7cf53 (0 : Int32) v3 g) rfl rfl (by decide) (Nat.le_of_ble_eq_true rfl) (by decide) (by decide) (fun v4 => ?_)
  refine J_iadd (show Dc Y_X11_holdTrial 65 (.iadd) 1 66 from ⟨by decide +kernel, rfl⟩) ?_
  refine J_iadd (show Dc Y_X11_holdTrial 66 (.iadd) 1 67 from ⟨by decide +kernel, rfl⟩) ?_
  refine J_istore_n [some (.ref x0), some (.int x1), some (.int x2), some (.int (x3 + ((1 : Int32) + v4)))] (show Dc Y_X11_holdTrial 67 (.istore_n 3) 1 68 from ⟨by decide +kernel, rfl⟩) rfl (by decide) rfl rfl ?_
  refine J_goto (tg := 17) (show Dc Y_X11_holdTrial 68 (.goto (-51)) 3 71 from ⟨by decide +kernel, rfl⟩) (by decide) ?_
  exact J_leaf (fun h => hL17 (x1, x2, x3 + ((1 : Int32) + v4), g) h)

theorem j_X11_holdTrial_99 {X : ZX} (N : Nat) (x0 : Nat) (x1 : Int32) (s0 : Nat) (s1 : Int64)  (g : ZS) {K : (Int32 × ZS) → Prop} (h0 : ∀ v g, K (v, g) → xK X (some (.int v)) g) : J Y_X11_holdTrial X 0 0 99 [some (.ref x0), some (.int x1), none, none] [.long s1, .ref s0] g (f_X11_holdTrial_99 N x0 x1 s0 s1 g) K := by
  unfold f_X11_holdTrial_99
  refine J_aload_n rfl rfl (show Dc Y_X11_holdTrial 99 (.aload_n 0) 1 100 from ⟨by decide +kernel, rfl⟩) ?_
  refine J_getR (show Dc Y_X11_holdTrial 100 (.getfield 47) 3 103 from ⟨by decide +kernel, rfl⟩) w_f_RX11_47 rfl (fun v1 => ?_)
  refine J_getI (show Dc Y_X11_holdTrial 103 (.getfield 219) 3 106 from ⟨by decide +kernel, rfl⟩) w_f_RX11_219 rfl (fun v2 => ?_)
  refine J_i2l (show Dc Y_X11_holdTrial 106 (.i2l) 1 107 from ⟨by decide +kernel, rfl⟩) ?_
  refine J_callVv (fun r => r) (show Dc Y_X11_holdTrial 107 (.invokevirtual 317) 3 110 from ⟨by decide +kernel, rfl⟩) w_m_RX11_317 w_in_X9_pair rfl w_se_X9_pair w_cw_X9_pair (c_X9_pair s0 s1 v2.toInt64 g) rfl rfl (by decide) (Nat.le_of_ble_eq_true rfl) (by decide) (by decide) (fun g3 => ?_)
  refine J_iload_n rfl rfl (show Dc Y_X11_holdTrial 110 (.iload_n 1) 1 111 from ⟨by decide +kernel, rfl⟩) ?_
  exact J_reti (show Dc Y_X11_holdTrial 111 (.ireturn) 1 112 from ⟨by decide +kernel, rfl⟩) rfl (h0 _ _) (by decide) (by decide)

theorem j_X11_holdTrial_86 {X : ZX} (N : Nat) (x0 : Nat) (x1 : Int32) (x2 : Int32)   (g : ZS) {K : (Int32 × ZS) → Prop} (h0 : ∀ v g, K (v, g) → xK X (some (.int v)) g) : J Y_X11_holdTrial X 0 0 86 [some (.ref x0), some (.int x1), some (.int x2), none] [] g (f_X11_holdTrial_86 N x0 x1 x2 g) K := by
  unfold f_X11_holdTrial_86
  refine J_aload_n rfl rfl (show Dc Y_X11_holdTrial 86 (.aload_n 0) 1 87 from ⟨by decide +kernel, rfl⟩) ?_
  refine J_getR (show Dc Y_X11_holdTrial 87 (.getfield 19) 3 90 from ⟨by decide +kernel, rfl⟩) w_f_RX11_19 rfl (fun v1 => ?_)
  refine J_iload_n rfl rfl (show Dc Y_X11_holdTrial 90 (.iload_n 2) 1 91 from ⟨by decide +kernel, rfl⟩) ?_
  refine J_if_eq (tg := 98) (show Dc Y_X11_holdTrial 91 (.ifCond .eq 7) 3 94 from ⟨by decide +kernel, rfl⟩) (by decide) (fun h => ?_) (fun h => ?_)
  · refine J_lconst (0 : Int64) rfl (show Dc Y_X11_holdTrial 98 (.lconst 0) 1 99 from ⟨by decide +kernel, rfl⟩) ?_
    refine J_mask [true, true, false, false] ?_
    exact j_X11_holdTrial_99 N x0 x1 v1 (0 : Int64) g h0
  · refine J_lconst (1 : Int64) rfl (show Dc Y_X11_holdTrial 94 (.lconst 1) 1 95 from ⟨by decide +kernel, rfl⟩) ?_
    refine J_goto (tg := 99) (show Dc Y_X11_holdTrial 95 (.goto 4) 3 98 from ⟨by decide +kernel, rfl⟩) (by decide) ?_
    refine J_mask [true, true, false, false] ?_
    exact j_X11_holdTrial_99 N x0 x1 v1 (1 : Int64) g h0

theorem j_X11_holdTrial_71 {X : ZX} (N : Nat) (x0 : Nat) (x1 : Int32) (x2 : Int32)   (g : ZS) {K : (Int32 × ZS) → Prop} (h0 : ∀ v g, K (v, g) → xK X (some (.int v)) g) : J Y_X11_holdTrial X 0 0 71 [some (.ref x0), some (.int x1), some (.int x2), none] [] g (f_X11_holdTrial_71 N x0 x1 x2 g) K := by
  unfold f_X11_holdTrial_71
  refine J_iload_n rfl rfl (show Dc Y_X11_holdTrial 71 (.iload_n 1) 1 72 from ⟨by decide +kernel, rfl⟩) ?_
  refine J_if_le (tg := 86) (show Dc Y_X11_holdTrial 72 (.ifCond .le 14) 3 75 from ⟨by decide +kernel, rfl⟩) (by decide) (fun h => ?_) (fun h => ?_)
  · exact j_X11_holdTrial_86 N x0 x1 x2 g h0
  · refine J_aload_n rfl rfl (show Dc Y_X11_holdTrial 75 (.aload_n 0) 1 76 from ⟨by decide +kernel, rfl⟩) ?_
    refine J_getR (show Dc Y_X11_holdTrial 76 (.getfield 57) 3 79 from ⟨by decide +kernel, rfl⟩) w_f_RX11_57 rfl (fun v1 => ?_)
    refine J_aload_n rfl rfl (show Dc Y_X11_holdTrial 79 (.aload_n 0) 1 80 from ⟨by decide +kernel, rfl⟩) ?_
    refine J_getR (show Dc Y_X11_holdTrial 80 (.getfield 51) 3 83 from ⟨by decide +kernel, rfl⟩) w_f_RX11_51 rfl (fun v2 => ?_)
    refine J_callVv (fun r => r) (show Dc Y_X11_holdTrial 83 (.invokevirtual 252) 3 86 from ⟨by decide +kernel, rfl⟩) w_m_RX11_252 w_in_X4_add rfl w_se_X4_add w_cw_X4_add (c_X4_add N v1 v2 g) rfl rfl (by decide) (Nat.le_of_ble_eq_true rfl) (by decide) (by decide) (fun g3 => ?_)
    exact j_X11_holdTrial_86 N x0 x1 x2 g3 h0

theorem j_X11_holdTrial_17 {X : ZX} (N : Nat) (x0 : Nat) (x1 : Int32) (x2 : Int32) (x3 : Int32)   (g : ZS) {K : ((Int32 × Int32 × Int32 × ZS) ⊕ (Int32 × ZS)) → Prop} (h0 : ∀ v g, K (.inr (v, g)) → xK X (some (.int v)) g) (hL17 : ∀ s, K (.inl s) → zG Y_X11_holdTrial X 0 0 17 [some (.ref x0), some (.int s.1), some (.int s.2.1), some (.int s.2.2.1)] [] s.2.2.2) : J Y_X11_holdTrial X 0 0 17 [some (.ref x0), some (.int x1), some (.int x2), some (.int x3)] [] g (f_X11_holdTrial_17 N x0 x1 x2 x3 g) K := by
  unfold f_X11_holdTrial_17
  refine J_iload_n rfl rfl (show Dc Y_X11_holdTrial 17 (.iload_n 3) 1 18 from ⟨by decide +kernel, rfl⟩) ?_
  refine J_aload_n rfl rfl (show Dc Y_X11_holdTrial 18 (.aload_n 0) 1 19 from ⟨by decide +kernel, rfl⟩) ?_
  refine J_getR (show Dc Y_X11_holdTrial 19 (.getfield 10) 3 22 from ⟨by decide +kernel, rfl⟩) w_f_RX11_10 rfl (fun v1 => ?_)
  refine J_getI (show Dc Y_X11_holdTrial 22 (.getfield 110) 3 25 from ⟨by decide +kernel, rfl⟩) w_f_RX11_110 rfl (fun v2 => ?_)
  refine J_icmp_ge (tg := 71) (show Dc Y_X11_holdTrial 25 (.if_icmp .ge 46) 3 28 from ⟨by decide +kernel, rfl⟩) (by decide) (fun h => ?_) (fun h => ?_)
  · refine J_mask [true, true, true, false] ?_
    refine J_map (f := Sum.inr) (fun _ h => h) ?_
    exact j_X11_holdTrial_71 (K := fun o => K (.inr o)) N x0 x1 x2 g h0
  · refine J_iload_n rfl rfl (show Dc Y_X11_holdTrial 28 (.iload_n 2) 1 29 from ⟨by decide +kernel, rfl⟩) ?_
    refine J_if_ne (tg := 71) (show Dc Y_X11_holdTrial 29 (.ifCond .ne 42) 3 32 from ⟨by decide +kernel, rfl⟩) (by decide) (fun h => ?_) (fun h => ?_)
    · refine J_mask [true, true, true, false] ?_
      refine J_map (f := Sum.inr) (fun _ h => h) ?_
      exact j_X11_holdTrial_71 (K := fun o => K (.inr o)) N x0 x1 x2 g h0
    · refine J_aload_n rfl rfl (show Dc Y_X11_holdTrial 32 (.aload_n 0) 1 33 from ⟨by decide +kernel, rfl⟩) ?_
      refine J_iload_n rfl rfl (show Dc Y_X11_holdTrial 33 (.iload_n 3) 1 34 from ⟨by decide +kernel, rfl⟩) ?_
      refine J_callVi (fun r => r.1) (fun r => r.2) (show Dc Y_X11_holdTrial 34 (.invokevirtual 314) 3 37 from ⟨by decide +kernel, rfl⟩) w_m_RX11_314 w_in_X11_actAt rfl w_se_X11_actAt w_cw_X11_actAt (c_X11_actAt N x0 x3 g) rfl rfl (by decide) (Nat.le_of_ble_eq_true rfl) (by decide) (by decide) (fun r3 => ?_)
      refine J_if_ge (tg := 45) (show Dc Y_X11_holdTrial 37 (.ifCond .ge 8) 3 40 from ⟨by decide +kernel, rfl⟩) (by decide) (fun h => ?_) (fun h => ?_)
      · refine J_iinc (1 : Int32) [some (.ref x0), some (.int (x1 + (1 : Int32))), some (.int x2), some (.int x3)] (show Dc Y_X11_holdTrial 45 (.iinc 1 1) 3 48 from ⟨by decide +kernel, rfl⟩) rfl rfl (by decide) rfl rfl ?_
        exact j_X11_holdTrial_48 N x0 (x1 + (1 : Int32)) x2 x3 r3.2 h0 hL17
      · refine J_iconst (1 : Int32) rfl (show Dc Y_X11_holdTrial 40 (.iconst 1) 1 41 from ⟨by decide +kernel, rfl⟩) ?_
        refine J_istore_n [some (.ref x0), some (.int x1), some (.int (1 : Int32)), some (.int x3)] (show Dc Y_X11_holdTrial 41 (.istore_n 2) 1 42 from ⟨by decide +kernel, rfl⟩) rfl (by decide) rfl rfl ?_
        refine J_goto (tg := 48) (show Dc Y_X11_holdTrial 42 (.goto 6) 3 45 from ⟨by decide +kernel, rfl⟩) (by decide) ?_
        exact j_X11_holdTrial_48 N x0 x1 (1 : Int32) x3 r3.2 h0 hL17

theorem j_X11_holdTrial {X : ZX} (N : Nat) (x0 : Nat)   (g : ZS) {K : (Int32 × ZS) → Prop} (h0 : ∀ v g, K (v, g) → xK X (some (.int v)) g) : J Y_X11_holdTrial X 0 0 0 [some (.ref x0), none, none, none] [] g (f_X11_holdTrial N x0 g) K := by
  unfold f_X11_holdTrial
  refine J_aload_n rfl rfl (show Dc Y_X11_holdTrial 0 (.aload_n 0) 1 1 from ⟨by decide +kernel, rfl⟩) ?_
  refine J_getR (show Dc Y_X11_holdTrial 1 (.getfield 51) 3 4 from ⟨by decide +kernel, rfl⟩) w_f_RX11_51 rfl (fun v1 => ?_)
  refine J_aload_n rfl rfl (show Dc Y_X11_holdTrial 4 (.aload_n 0) 1 5 from ⟨by decide +kernel, rfl⟩) ?_
  refine J_getR (show Dc Y_X11_holdTrial 5 (.getfield 47) 3 8 from ⟨by decide +kernel, rfl⟩) w_f_RX11_47 rfl (fun v2 => ?_)
  refine J_callVv (fun r => r) (show Dc Y_X11_holdTrial 8 (.invokevirtual 244) 3 11 from ⟨by decide +kernel, rfl⟩) w_m_RX11_244 w_in_X6_copyFrom rfl w_se_X6_copyFrom w_cw_X6_copyFrom (c_X6_copyFrom N v1 v2 g) rfl rfl (by decide) (Nat.le_of_ble_eq_true rfl) (by decide) (by decide) (fun g3 => ?_)
  refine J_iconst (0 : Int32) rfl (show Dc Y_X11_holdTrial 11 (.iconst 0) 1 12 from ⟨by decide +kernel, rfl⟩) ?_
  refine J_istore_n [some (.ref x0), some (.int (0 : Int32)), none, none] (show Dc Y_X11_holdTrial 12 (.istore_n 1) 1 13 from ⟨by decide +kernel, rfl⟩) rfl (by decide) rfl rfl ?_
  refine J_iconst (0 : Int32) rfl (show Dc Y_X11_holdTrial 13 (.iconst 0) 1 14 from ⟨by decide +kernel, rfl⟩) ?_
  refine J_istore_n [some (.ref x0), some (.int (0 : Int32)), some (.int (0 : Int32)), none] (show Dc Y_X11_holdTrial 14 (.istore_n 2) 1 15 from ⟨by decide +kernel, rfl⟩) rfl (by decide) rfl rfl ?_
  refine J_iconst (0 : Int32) rfl (show Dc Y_X11_holdTrial 15 (.iconst 0) 1 16 from ⟨by decide +kernel, rfl⟩) ?_
  refine J_istore_n [some (.ref x0), some (.int (0 : Int32)), some (.int (0 : Int32)), some (.int (0 : Int32))] (show Dc Y_X11_holdTrial 16 (.istore_n 3) 1 17 from ⟨by decide +kernel, rfl⟩) rfl (by decide) rfl rfl ?_
  exact J_loop (X := X) (K := K) (uc := fun _ => 0) (us := fun _ => 0) (lf := fun s => [some (.ref x0), some (.int s.1), some (.int s.2.1), some (.int s.2.2.1)]) (gf := fun s => s.2.2.2) (fun s => j_X11_holdTrial_17 (K := zKl Y_X11_holdTrial X 17 (fun _ => 0) (fun _ => 0) (fun s => [some (.ref x0), some (.int s.1), some (.int s.2.1), some (.int s.2.2.1)]) (fun s => s.2.2.2) K) N x0 s.1 s.2.1 s.2.2.1 s.2.2.2 h0 (fun s h => h)) N ((0 : Int32), (0 : Int32), (0 : Int32), g3)

theorem c_X11_holdTrial {l : Launch} {D : ZD} {B0 : Nat} (N : Nat) (x0 : Nat) (g : ZS) : ∀ r, f_X11_holdTrial N x0 g = some r → zCt l D B0 yX11_holdTrial Y_X11_holdTrial [.ref x0] g (some (.int r.1)) r.2 :=
  zCt_ofF (vo := fun r => some (.int r.1)) (so := fun r => r.2) (by decide +kernel) rfl (fun h => by cases h) rfl (Nat.le_of_ble_eq_true rfl) (fun X => j_X11_holdTrial N x0 g (fun _ _ h => h))

theorem j_X11_trial_20 {X : ZX} (N : Nat) (x0 : Nat) (s0 : Int32)  (g : ZS) {K : (Int32 × ZS) → Prop} (h0 : ∀ v g, K (v, g) → xK X (some (.int v)) g) : J Y_X11_trial X 0 0 20 [some (.ref x0), none, none] [.int s0] g (f_X11_trial_20 N x0 s0 g) K := by
  unfold f_X11_trial_20
  refine J_istore_n [some (.ref x0), none, some (.int s0)] (show Dc Y_X11_trial 20 (.istore_n 2) 1 21 from ⟨by decide +kernel, rfl⟩) rfl (by decide) rfl rfl ?_
  refine J_aload_n rfl rfl (show Dc Y_X11_trial 21 (.aload_n 0) 1 22 from ⟨by decide +kernel, rfl⟩) ?_
  refine J_getR (show Dc Y_X11_trial 22 (.getfield 10) 3 25 from ⟨by decide +kernel, rfl⟩) w_f_RX11_10 rfl (fun v1 => ?_)
  refine J_iconst (0 : Int32) rfl (show Dc Y_X11_trial 25 (.iconst 0) 1 26 from ⟨by decide +kernel, rfl⟩) ?_
  refine J_putI (show Dc Y_X11_trial 26 (.putfield 110) 3 29 from ⟨by decide +kernel, rfl⟩) w_f_RX11_110 rfl rfl (fun g2 => ?_) (fun h => by cases h)
  refine J_iload_n rfl rfl (show Dc Y_X11_trial 29 (.iload_n 2) 1 30 from ⟨by decide +kernel, rfl⟩) ?_
  exact J_reti (show Dc Y_X11_trial 30 (.ireturn) 1 31 from ⟨by decide +kernel, rfl⟩) rfl (h0 _ _) (by decide) (by decide)

theorem j_X11_trial {X : ZX} (N : Nat) (x0 : Nat)   (g : ZS) {K : (Int32 × ZS) → Prop} (h0 : ∀ v g, K (v, g) → xK X (some (.int v)) g) : J Y_X11_trial X 0 0 0 [some (.ref x0), none, none] [] g (f_X11_trial N x0 g) K := by
  unfold f_X11_trial
  refine J_aload_n rfl rfl (show Dc Y_X11_trial 0 (.aload_n 0) 1 1 from ⟨by decide +kernel, rfl⟩) ?_
  refine J_callVi (fun r => r) (fun _ => g) (show Dc Y_X11_trial 1 (.invokevirtual 301) 3 4 from ⟨by decide +kernel, rfl⟩) w_m_RX11_301 w_in_X11_badInTrial rfl w_se_X11_badInTrial w_cw_X11_badInTrial (c_X11_badInTrial N x0 g) rfl rfl (by decide) (Nat.le_of_ble_eq_true rfl) (by decide) (by decide) (fun v1 => ?_)
  refine J_istore_n [some (.ref x0), some (.int v1), none] (show Dc Y_X11_trial 4 (.istore_n 1) 1 5 from ⟨by decide +kernel, rfl⟩) rfl (by decide) rfl rfl ?_
  refine J_iload_n rfl rfl (show Dc Y_X11_trial 5 (.iload_n 1) 1 6 from ⟨by decide +kernel, rfl⟩) ?_
  refine J_iconst (-1 : Int32) rfl (show Dc Y_X11_trial 6 (.iconst (-1)) 1 7 from ⟨by decide +kernel, rfl⟩) ?_
  refine J_icmp_ne (tg := 17) (show Dc Y_X11_trial 7 (.if_icmp .ne 10) 3 10 from ⟨by decide +kernel, rfl⟩) (by decide) (fun h => ?_) (fun h => ?_)
  · refine J_iconst (-1 : Int32) rfl (show Dc Y_X11_trial 17 (.iconst (-1)) 1 18 from ⟨by decide +kernel, rfl⟩) ?_
    refine J_iload_n rfl rfl (show Dc Y_X11_trial 18 (.iload_n 1) 1 19 from ⟨by decide +kernel, rfl⟩) ?_
    refine J_isub (show Dc Y_X11_trial 19 (.isub) 1 20 from ⟨by decide +kernel, rfl⟩) ?_
    refine J_mask [true, false, false] ?_
    exact j_X11_trial_20 N x0 ((-1 : Int32) - v1) g h0
  · refine J_aload_n rfl rfl (show Dc Y_X11_trial 10 (.aload_n 0) 1 11 from ⟨by decide +kernel, rfl⟩) ?_
    refine J_callVi (fun r => r.1) (fun r => r.2) (show Dc Y_X11_trial 11 (.invokevirtual 304) 3 14 from ⟨by decide +kernel, rfl⟩) w_m_RX11_304 w_in_X11_holdTrial rfl w_se_X11_holdTrial w_cw_X11_holdTrial (c_X11_holdTrial N x0 g) rfl rfl (by decide) (Nat.le_of_ble_eq_true rfl) (by decide) (by decide) (fun r2 => ?_)
    refine J_goto (tg := 20) (show Dc Y_X11_trial 14 (.goto 6) 3 17 from ⟨by decide +kernel, rfl⟩) (by decide) ?_
    refine J_mask [true, false, false] ?_
    exact j_X11_trial_20 N x0 r2.1 r2.2 h0

theorem c_X11_trial {l : Launch} {D : ZD} {B0 : Nat} (N : Nat) (x0 : Nat) (g : ZS) : ∀ r, f_X11_trial N x0 g = some r → zCt l D B0 yX11_trial Y_X11_trial [.ref x0] g (some (.int r.1)) r.2 :=
  zCt_ofF (vo := fun r => some (.int r.1)) (so := fun r => r.2) (by decide +kernel) rfl (fun h => by cases h) rfl (Nat.le_of_ble_eq_true rfl) (fun X => j_X11_trial N x0 g (fun _ _ h => h))

theorem j_X4_bringBack {X : ZX} (N : Nat) (x0 : Nat) (x1 : Nat)   (g : ZS) {K : (Int32 × ZS) → Prop} (h0 : ∀ v g, K (v, g) → xK X (some (.int v)) g) : J Y_X4_bringBack X 0 0 0 [some (.ref x0), some (.ref x1)] [] g (f_X4_bringBack N x0 x1 g) K := by
  unfold f_X4_bringBack
  refine J_aload_n rfl rfl (show Dc Y_X4_bringBack 0 (.aload_n 0) 1 1 from ⟨by decide +kernel, rfl⟩) ?_
  refine J_getI (show Dc Y_X4_bringBack 1 (.getfield 18) 3 4 from ⟨by decide +kernel, rfl⟩) w_f_RX4_18 rfl (fun v1 => ?_)
  refine J_if_gt (tg := 9) (show Dc Y_X4_bringBack 4 (.ifCond .gt 5) 3 7 from ⟨by decide +kernel, rfl⟩) (by decide) (fun h => ?_) (fun h => ?_)
  · refine J_aload_n rfl rfl (show Dc Y_X4_bringBack 9 (.aload_n 0) 1 10 from ⟨by decide +kernel, rfl⟩) ?_
    refine J_dup rfl (show Dc Y_X4_bringBack 10 (.dup) 1 11 from ⟨by decide +kernel, rfl⟩) ?_
    refine J_getI (show Dc Y_X4_bringBack 11 (.getfield 18) 3 14 from ⟨by decide +kernel, rfl⟩) w_f_RX4_18 rfl (fun v2 => ?_)
    refine J_iconst (1 : Int32) rfl (show Dc Y_X4_bringBack 14 (.iconst 1) 1 15 from ⟨by decide +kernel, rfl⟩) ?_
    refine J_isub (show Dc Y_X4_bringBack 15 (.isub) 1 16 from ⟨by decide +kernel, rfl⟩) ?_
    refine J_putI (show Dc Y_X4_bringBack 16 (.putfield 18) 3 19 from ⟨by decide +kernel, rfl⟩) w_f_RX4_18 rfl rfl (fun g3 => ?_) (fun h => by cases h)
    refine J_aload_n rfl rfl (show Dc Y_X4_bringBack 19 (.aload_n 1) 1 20 from ⟨by decide +kernel, rfl⟩) ?_
    refine J_aload_n rfl rfl (show Dc Y_X4_bringBack 20 (.aload_n 0) 1 21 from ⟨by decide +kernel, rfl⟩) ?_
    refine J_getR (show Dc Y_X4_bringBack 21 (.getfield 11) 3 24 from ⟨by decide +kernel, rfl⟩) w_f_RX4_11 rfl (fun v4 => ?_)
    refine J_aload_n rfl rfl (show Dc Y_X4_bringBack 24 (.aload_n 0) 1 25 from ⟨by decide +kernel, rfl⟩) ?_
    refine J_getI (show Dc Y_X4_bringBack 25 (.getfield 18) 3 28 from ⟨by decide +kernel, rfl⟩) w_f_RX4_18 rfl (fun v5 => ?_)
    refine J_aald (kd := 26) (by decide) (by decide) (show Dc Y_X4_bringBack 28 (.aaload) 1 29 from ⟨by decide +kernel, rfl⟩) (fun v6 => ?_)
    refine J_callVv (fun r => r) (show Dc Y_X4_bringBack 29 (.invokevirtual 25) 3 32 from ⟨by decide +kernel, rfl⟩) w_m_RX4_25 w_in_X6_copyFrom rfl w_se_X6_copyFrom w_cw_X6_copyFrom (c_X6_copyFrom N x1 v6 g3) rfl rfl (by decide) (Nat.le_of_ble_eq_true rfl) (by decide) (by decide) (fun g7 => ?_)
    refine J_iconst (1 : Int32) rfl (show Dc Y_X4_bringBack 32 (.iconst 1) 1 33 from ⟨by decide +kernel, rfl⟩) ?_
    exact J_retz rfl (show Dc Y_X4_bringBack 33 (.ireturn) 1 34 from ⟨by decide +kernel, rfl⟩) rfl (h0 _ _) (by decide) (by decide)
  · refine J_iconst (0 : Int32) rfl (show Dc Y_X4_bringBack 7 (.iconst 0) 1 8 from ⟨by decide +kernel, rfl⟩) ?_
    exact J_retz rfl (show Dc Y_X4_bringBack 8 (.ireturn) 1 9 from ⟨by decide +kernel, rfl⟩) rfl (h0 _ _) (by decide) (by decide)

theorem c_X4_bringBack {l : Launch} {D : ZD} {B0 : Nat} (N : Nat) (x0 : Nat) (x1 : Nat) (g : ZS) : ∀ r, f_X4_bringBack N x0 x1 g = some r → zCt l D B0 yX4_bringBack Y_X4_bringBack [.ref x0, .ref x1] g (some (.int r.1)) r.2 :=
  zCt_ofF (vo := fun r => some (.int r.1)) (so := fun r => r.2) (by decide +kernel) rfl (fun h => by cases h) rfl (Nat.le_of_ble_eq_true rfl) (fun X => j_X4_bringBack N x0 x1 g (fun _ _ h => h))

theorem j_X11_undo_25 {X : ZX} (N : Nat)  (s0 : Int32)  (g : ZS) {K : (Int32 × ZS) → Prop} (h0 : ∀ v g, K (v, g) → xK X (some (.int v)) g) : J Y_X11_undo X 0 0 25 [none] [.int s0] g (f_X11_undo_25 N s0 g) K := by
  unfold f_X11_undo_25
  exact J_reti (show Dc Y_X11_undo 25 (.ireturn) 1 26 from ⟨by decide +kernel, rfl⟩) rfl (h0 _ _) (by decide) (by decide)

theorem j_X11_undo {X : ZX} (N : Nat) (x0 : Nat)   (g : ZS) {K : (Int32 × ZS) → Prop} (h0 : ∀ v g, K (v, g) → xK X (some (.int v)) g) : J Y_X11_undo X 0 0 0 [some (.ref x0)] [] g (f_X11_undo N x0 g) K := by
  unfold f_X11_undo
  refine J_aload_n rfl rfl (show Dc Y_X11_undo 0 (.aload_n 0) 1 1 from ⟨by decide +kernel, rfl⟩) ?_
  refine J_getR (show Dc Y_X11_undo 1 (.getfield 57) 3 4 from ⟨by decide +kernel, rfl⟩) w_f_RX11_57 rfl (fun v1 => ?_)
  refine J_aload_n rfl rfl (show Dc Y_X11_undo 4 (.aload_n 0) 1 5 from ⟨by decide +kernel, rfl⟩) ?_
  refine J_getR (show Dc Y_X11_undo 5 (.getfield 47) 3 8 from ⟨by decide +kernel, rfl⟩) w_f_RX11_47 rfl (fun v2 => ?_)
  refine J_callVi (fun r => r.1) (fun r => r.2) (show Dc Y_X11_undo 8 (.invokevirtual 321) 3 11 from ⟨by decide +kernel, rfl⟩) w_m_RX11_321 w_in_X4_bringBack rfl w_se_X4_bringBack w_cw_X4_bringBack (c_X4_bringBack N v1 v2 g) rfl rfl (by decide) (Nat.le_of_ble_eq_true rfl) (by decide) (by decide) (fun r3 => ?_)
  refine J_if_eq (tg := 24) (show Dc Y_X11_undo 11 (.ifCond .eq 13) 3 14 from ⟨by decide +kernel, rfl⟩) (by decide) (fun h => ?_) (fun h => ?_)
  · refine J_iconst (-1 : Int32) rfl (show Dc Y_X11_undo 24 (.iconst (-1)) 1 25 from ⟨by decide +kernel, rfl⟩) ?_
    refine J_mask [false] ?_
    exact j_X11_undo_25 N (-1 : Int32) r3.2 h0
  · refine J_aload_n rfl rfl (show Dc Y_X11_undo 14 (.aload_n 0) 1 15 from ⟨by decide +kernel, rfl⟩) ?_
    refine J_getR (show Dc Y_X11_undo 15 (.getfield 57) 3 18 from ⟨by decide +kernel, rfl⟩) w_f_RX11_57 rfl (fun v4 => ?_)
    refine J_getI (show Dc Y_X11_undo 18 (.getfield 142) 3 21 from ⟨by decide +kernel, rfl⟩) w_f_RX11_142 rfl (fun v5 => ?_)
    refine J_goto (tg := 25) (show Dc Y_X11_undo 21 (.goto 4) 3 24 from ⟨by decide +kernel, rfl⟩) (by decide) ?_
    refine J_mask [false] ?_
    exact j_X11_undo_25 N v5 r3.2 h0

theorem c_X11_undo {l : Launch} {D : ZD} {B0 : Nat} (N : Nat) (x0 : Nat) (g : ZS) : ∀ r, f_X11_undo N x0 g = some r → zCt l D B0 yX11_undo Y_X11_undo [.ref x0] g (some (.int r.1)) r.2 :=
  zCt_ofF (vo := fun r => some (.int r.1)) (so := fun r => r.2) (by decide +kernel) rfl (fun h => by cases h) rfl (Nat.le_of_ble_eq_true rfl) (fun X => j_X11_undo N x0 g (fun _ _ h => h))

theorem j_X11_later_18 {X : ZX} (N : Nat)    (g : ZS) {K : (Int32 × ZS) → Prop} (h0 : ∀ v g, K (v, g) → xK X (some (.int v)) g) : J Y_X11_later X 0 0 18 [none, none, none, none] [] g (f_X11_later_18 N g) K := by
  unfold f_X11_later_18
  refine J_iconst (-1 : Int32) rfl (show Dc Y_X11_later 18 (.iconst (-1)) 1 19 from ⟨by decide +kernel, rfl⟩) ?_
  exact J_reti (show Dc Y_X11_later 19 (.ireturn) 1 20 from ⟨by decide +kernel, rfl⟩) rfl (h0 _ _) (by decide) (by decide)

theorem j_X11_later_38 {X : ZX} (N : Nat) (x0 : Nat) (x2 : Int32) (x3 : Int32)   (g : ZS) {K : ((Int32 × ZS) ⊕ (Int32 × ZS)) → Prop} (h0 : ∀ v g, K (.inr (v, g)) → xK X (some (.int v)) g) (hL38 : ∀ s, K (.inl s) → zG Y_X11_later X 0 0 38 [some (.ref x0), none, some (.int x2), some (.int s.1)] [] s.2) : J Y_X11_later X 0 0 38 [some (.ref x0), none, some (.int x2), some (.int x3)] [] g (f_X11_later_38 N x0 x2 x3 g) K := by
  unfold f_X11_later_38
  refine J_iload_n rfl rfl (show Dc Y_X11_later 38 (.iload_n 3) 1 39 from ⟨by decide +kernel, rfl⟩) ?_
  refine J_iload_n rfl rfl (show Dc Y_X11_later 39 (.iload_n 2) 1 40 from ⟨by decide +kernel, rfl⟩) ?_
  refine J_icmp_ge (tg := 66) (show Dc Y_X11_later 40 (.if_icmp .ge 26) 3 43 from ⟨by decide +kernel, rfl⟩) (by decide) (fun h => ?_) (fun h => ?_)
  · refine J_map (f := Sum.inr) (fun _ h => h) ?_
    refine J_aload_n rfl rfl (show Dc Y_X11_later 66 (.aload_n 0) 1 67 from ⟨by decide +kernel, rfl⟩) ?_
    refine J_getR (show Dc Y_X11_later 67 (.getfield 79) 3 70 from ⟨by decide +kernel, rfl⟩) w_f_RX11_79 rfl (fun v1 => ?_)
    refine J_aload_n rfl rfl (show Dc Y_X11_later 70 (.aload_n 0) 1 71 from ⟨by decide +kernel, rfl⟩) ?_
    refine J_getR (show Dc Y_X11_later 71 (.getfield 72) 3 74 from ⟨by decide +kernel, rfl⟩) w_f_RX11_72 rfl (fun v2 => ?_)
    refine J_aload_n rfl rfl (show Dc Y_X11_later 74 (.aload_n 0) 1 75 from ⟨by decide +kernel, rfl⟩) ?_
    refine J_getR (show Dc Y_X11_later 75 (.getfield 37) 3 78 from ⟨by decide +kernel, rfl⟩) w_f_RX11_37 rfl (fun v3 => ?_)
    refine J_aload_n rfl rfl (show Dc Y_X11_later 78 (.aload_n 0) 1 79 from ⟨by decide +kernel, rfl⟩) ?_
    refine J_getR (show Dc Y_X11_later 79 (.getfield 30) 3 82 from ⟨by decide +kernel, rfl⟩) w_f_RX11_30 rfl (fun v4 => ?_)
    refine J_callVv (fun r => r) (show Dc Y_X11_later 82 (.invokevirtual 289) 3 85 from ⟨by decide +kernel, rfl⟩) w_m_RX11_289 w_in_X10_follow rfl w_se_X10_follow w_cw_X10_follow (c_X10_follow N v1 v2 v3 v4 g) rfl rfl (by decide) (Nat.le_of_ble_eq_true rfl) (by decide) (by decide) (fun g5 => ?_)
    refine J_aload_n rfl rfl (show Dc Y_X11_later 85 (.aload_n 0) 1 86 from ⟨by decide +kernel, rfl⟩) ?_
    refine J_callVi (fun r => r.1) (fun r => r.2) (show Dc Y_X11_later 86 (.invokevirtual 325) 3 89 from ⟨by decide +kernel, rfl⟩) w_m_RX11_325 w_in_X11_tellWords rfl w_se_X11_tellWords w_cw_X11_tellWords (c_X11_tellWords N x0 g5) rfl rfl (by decide) (Nat.le_of_ble_eq_true rfl) (by decide) (by decide) (fun r6 => ?_)
    exact J_reti (show Dc Y_X11_later 89 (.ireturn) 1 90 from ⟨by decide +kernel, rfl⟩) rfl (h0 _ _) (by decide) (by decide)
  · refine J_aload_n rfl rfl (show Dc Y_X11_later 43 (.aload_n 0) 1 44 from ⟨by decide +kernel, rfl⟩) ?_
    refine J_aload_n rfl rfl (show Dc Y_X11_later 44 (.aload_n 0) 1 45 from ⟨by decide +kernel, rfl⟩) ?_
    refine J_getR (show Dc Y_X11_later 45 (.getfield 72) 3 48 from ⟨by decide +kernel, rfl⟩) w_f_RX11_72 rfl (fun v7 => ?_)
    refine J_aload_n rfl rfl (show Dc Y_X11_later 48 (.aload_n 0) 1 49 from ⟨by decide +kernel, rfl⟩) ?_
    refine J_getR (show Dc Y_X11_later 49 (.getfield 47) 3 52 from ⟨by decide +kernel, rfl⟩) w_f_RX11_47 rfl (fun v8 => ?_)
    refine J_getI (show Dc Y_X11_later 52 (.getfield 219) 3 55 from ⟨by decide +kernel, rfl⟩) w_f_RX11_219 rfl (fun v9 => ?_)
    refine J_iload_n rfl rfl (show Dc Y_X11_later 55 (.iload_n 3) 1 56 from ⟨by decide +kernel, rfl⟩) ?_
    refine J_iadd (show Dc Y_X11_later 56 (.iadd) 1 57 from ⟨by decide +kernel, rfl⟩) ?_
    refine J_callVv (fun r => r) (show Dc Y_X11_later 57 (.invokevirtual 263) 3 60 from ⟨by decide +kernel, rfl⟩) w_m_RX11_263 w_in_X11_listenOn rfl w_se_X11_listenOn w_cw_X11_listenOn (c_X11_listenOn x0 v7 (v9 + x3) g) rfl rfl (by decide) (Nat.le_of_ble_eq_true rfl) (by decide) (by decide) (fun g10 => ?_)
    refine J_iinc (1 : Int32) [some (.ref x0), none, some (.int x2), some (.int (x3 + (1 : Int32)))] (show Dc Y_X11_later 60 (.iinc 3 1) 3 63 from ⟨by decide +kernel, rfl⟩) rfl rfl (by decide) rfl rfl ?_
    refine J_goto (tg := 38) (show Dc Y_X11_later 63 (.goto (-25)) 3 66 from ⟨by decide +kernel, rfl⟩) (by decide) ?_
    exact J_leaf (fun h => hL38 (x3 + (1 : Int32), g10) h)

theorem j_X11_later {X : ZX} (N : Nat) (x0 : Nat) (x1 : Int32) (x2 : Int32)   (g : ZS) {K : (Int32 × ZS) → Prop} (h0 : ∀ v g, K (v, g) → xK X (some (.int v)) g) : J Y_X11_later X 0 0 0 [some (.ref x0), some (.int x1), some (.int x2), none] [] g (f_X11_later N x0 x1 x2 g) K := by
  unfold f_X11_later
  refine J_aload_n rfl rfl (show Dc Y_X11_later 0 (.aload_n 0) 1 1 from ⟨by decide +kernel, rfl⟩) ?_
  refine J_iload_n rfl rfl (show Dc Y_X11_later 1 (.iload_n 1) 1 2 from ⟨by decide +kernel, rfl⟩) ?_
  refine J_callVi (fun r => r) (fun _ => g) (show Dc Y_X11_later 2 (.invokevirtual 161) 3 5 from ⟨by decide +kernel, rfl⟩) w_m_RX11_161 w_in_X11_isParrot rfl w_se_X11_isParrot w_cw_X11_isParrot (c_X11_isParrot x0 x1 g) rfl rfl (by decide) (Nat.le_of_ble_eq_true rfl) (by decide) (by decide) (fun v1 => ?_)
  refine J_if_eq (tg := 18) (show Dc Y_X11_later 5 (.ifCond .eq 13) 3 8 from ⟨by decide +kernel, rfl⟩) (by decide) (fun h => ?_) (fun h => ?_)
  · refine J_mask [false, false, false, false] ?_
    exact j_X11_later_18 N g h0
  · refine J_iload_n rfl rfl (show Dc Y_X11_later 8 (.iload_n 2) 1 9 from ⟨by decide +kernel, rfl⟩) ?_
    refine J_if_lt (tg := 18) (show Dc Y_X11_later 9 (.ifCond .lt 9) 3 12 from ⟨by decide +kernel, rfl⟩) (by decide) (fun h => ?_) (fun h => ?_)
    · refine J_mask [false, false, false, false] ?_
      exact j_X11_later_18 N g h0
    · refine J_iload_n rfl rfl (show Dc Y_X11_later 12 (.iload_n 2) 1 13 from ⟨by decide +kernel, rfl⟩) ?_
      refine J_bipush (60 : Int32) rfl (show Dc Y_X11_later 13 (.bipush 60) 2 15 from ⟨by decide +kernel, rfl⟩) ?_
      refine J_icmp_le (tg := 20) (show Dc Y_X11_later 15 (.if_icmp .le 5) 3 18 from ⟨by decide +kernel, rfl⟩) (by decide) (fun h => ?_) (fun h => ?_)
      · refine J_aload_n rfl rfl (show Dc Y_X11_later 20 (.aload_n 0) 1 21 from ⟨by decide +kernel, rfl⟩) ?_
        refine J_getR (show Dc Y_X11_later 21 (.getfield 72) 3 24 from ⟨by decide +kernel, rfl⟩) w_f_RX11_72 rfl (fun v2 => ?_)
        refine J_aload_n rfl rfl (show Dc Y_X11_later 24 (.aload_n 0) 1 25 from ⟨by decide +kernel, rfl⟩) ?_
        refine J_getR (show Dc Y_X11_later 25 (.getfield 47) 3 28 from ⟨by decide +kernel, rfl⟩) w_f_RX11_47 rfl (fun v3 => ?_)
        refine J_getR (show Dc Y_X11_later 28 (.getfield 171) 3 31 from ⟨by decide +kernel, rfl⟩) w_f_RX11_171 rfl (fun v4 => ?_)
        refine J_iload_n rfl rfl (show Dc Y_X11_later 31 (.iload_n 1) 1 32 from ⟨by decide +kernel, rfl⟩) ?_
        refine J_aald (kd := 25) (by decide) (by decide) (show Dc Y_X11_later 32 (.aaload) 1 33 from ⟨by decide +kernel, rfl⟩) (fun v5 => ?_)
        refine J_callVv (fun r => r) (show Dc Y_X11_later 33 (.invokevirtual 345) 3 36 from ⟨by decide +kernel, rfl⟩) w_m_RX11_345 w_in_X0_copyFrom rfl w_se_X0_copyFrom w_cw_X0_copyFrom (c_X0_copyFrom v2 v5 g) rfl rfl (by decide) (Nat.le_of_ble_eq_true rfl) (by decide) (by decide) (fun g6 => ?_)
        refine J_iconst (0 : Int32) rfl (show Dc Y_X11_later 36 (.iconst 0) 1 37 from ⟨by decide +kernel, rfl⟩) ?_
        refine J_istore_n [some (.ref x0), some (.int x1), some (.int x2), some (.int (0 : Int32))] (show Dc Y_X11_later 37 (.istore_n 3) 1 38 from ⟨by decide +kernel, rfl⟩) rfl (by decide) rfl rfl ?_
        refine J_mask [true, false, true, true] ?_
        exact J_loop (X := X) (K := K) (uc := fun _ => 0) (us := fun _ => 0) (lf := fun s => [some (.ref x0), none, some (.int x2), some (.int s.1)]) (gf := fun s => s.2) (fun s => j_X11_later_38 (K := zKl Y_X11_later X 38 (fun _ => 0) (fun _ => 0) (fun s => [some (.ref x0), none, some (.int x2), some (.int s.1)]) (fun s => s.2) K) N x0 x2 s.1 s.2 h0 (fun s h => h)) N ((0 : Int32), g6)
      · refine J_mask [false, false, false, false] ?_
        exact j_X11_later_18 N g h0

theorem c_X11_later {l : Launch} {D : ZD} {B0 : Nat} (N : Nat) (x0 : Nat) (x1 : Int32) (x2 : Int32) (g : ZS) : ∀ r, f_X11_later N x0 x1 x2 g = some r → zCt l D B0 yX11_later Y_X11_later [.ref x0, .int x1, .int x2] g (some (.int r.1)) r.2 :=
  zCt_ofF (vo := fun r => some (.int r.1)) (so := fun r => r.2) (by decide +kernel) rfl (fun h => by cases h) rfl (Nat.le_of_ble_eq_true rfl) (fun X => j_X11_later N x0 x1 x2 g (fun _ _ h => h))

theorem j_X11_alters_52 {X : ZX} (N : Nat) (x0 : Nat) (x2 : Int32)   (g : ZS) {K : ((Int32 × ZS) ⊕ (Int32 × ZS)) → Prop} (h0 : ∀ v g, K (.inr (v, g)) → xK X (some (.int v)) g) (hL52 : ∀ s, K (.inl s) → zG Y_X11_alters X 0 0 52 [some (.ref x0), none, some (.int s.1), none] [] s.2) : J Y_X11_alters X 0 0 52 [some (.ref x0), none, some (.int x2), none] [] g (f_X11_alters_52 N x0 x2 g) K := by
  unfold f_X11_alters_52
  refine J_iload_n rfl rfl (show Dc Y_X11_alters 52 (.iload_n 2) 1 53 from ⟨by decide +kernel, rfl⟩) ?_
  refine J_bipush (60 : Int32) rfl (show Dc Y_X11_alters 53 (.bipush 60) 2 55 from ⟨by decide +kernel, rfl⟩) ?_
  refine J_icmp_gt (tg := 139) (show Dc Y_X11_alters 55 (.if_icmp .gt 84) 3 58 from ⟨by decide +kernel, rfl⟩) (by decide) (fun h => ?_) (fun h => ?_)
  · refine J_map (f := Sum.inr) (fun _ h => h) ?_
    refine J_bipush (-2 : Int32) rfl (show Dc Y_X11_alters 139 (.bipush (-2)) 2 141 from ⟨by decide +kernel, rfl⟩) ?_
    exact J_reti (show Dc Y_X11_alters 141 (.ireturn) 1 142 from ⟨by decide +kernel, rfl⟩) rfl (h0 _ _) (by decide) (by decide)
  · refine J_aload_n rfl rfl (show Dc Y_X11_alters 58 (.aload_n 0) 1 59 from ⟨by decide +kernel, rfl⟩) ?_
    refine J_aload_n rfl rfl (show Dc Y_X11_alters 59 (.aload_n 0) 1 60 from ⟨by decide +kernel, rfl⟩) ?_
    refine J_getR (show Dc Y_X11_alters 60 (.getfield 72) 3 63 from ⟨by decide +kernel, rfl⟩) w_f_RX11_72 rfl (fun v1 => ?_)
    refine J_aload_n rfl rfl (show Dc Y_X11_alters 63 (.aload_n 0) 1 64 from ⟨by decide +kernel, rfl⟩) ?_
    refine J_getR (show Dc Y_X11_alters 64 (.getfield 47) 3 67 from ⟨by decide +kernel, rfl⟩) w_f_RX11_47 rfl (fun v2 => ?_)
    refine J_getI (show Dc Y_X11_alters 67 (.getfield 219) 3 70 from ⟨by decide +kernel, rfl⟩) w_f_RX11_219 rfl (fun v3 => ?_)
    refine J_iload_n rfl rfl (show Dc Y_X11_alters 70 (.iload_n 2) 1 71 from ⟨by decide +kernel, rfl⟩) ?_
    refine J_iadd (show Dc Y_X11_alters 71 (.iadd) 1 72 from ⟨by decide +kernel, rfl⟩) ?_
    refine J_iconst (1 : Int32) rfl (show Dc Y_X11_alters 72 (.iconst 1) 1 73 from ⟨by decide +kernel, rfl⟩) ?_
    refine J_isub (show Dc Y_X11_alters 73 (.isub) 1 74 from ⟨by decide +kernel, rfl⟩) ?_
    refine J_callVv (fun r => r) (show Dc Y_X11_alters 74 (.invokevirtual 263) 3 77 from ⟨by decide +kernel, rfl⟩) w_m_RX11_263 w_in_X11_listenOn rfl w_se_X11_listenOn w_cw_X11_listenOn (c_X11_listenOn x0 v1 ((v3 + x2) - (1 : Int32)) g) rfl rfl (by decide) (Nat.le_of_ble_eq_true rfl) (by decide) (by decide) (fun g4 => ?_)
    refine J_aload_n rfl rfl (show Dc Y_X11_alters 77 (.aload_n 0) 1 78 from ⟨by decide +kernel, rfl⟩) ?_
    refine J_getR (show Dc Y_X11_alters 78 (.getfield 83) 3 81 from ⟨by decide +kernel, rfl⟩) w_f_RX11_83 rfl (fun v5 => ?_)
    refine J_aload_n rfl rfl (show Dc Y_X11_alters 81 (.aload_n 0) 1 82 from ⟨by decide +kernel, rfl⟩) ?_
    refine J_getR (show Dc Y_X11_alters 82 (.getfield 72) 3 85 from ⟨by decide +kernel, rfl⟩) w_f_RX11_72 rfl (fun v6 => ?_)
    refine J_aload_n rfl rfl (show Dc Y_X11_alters 85 (.aload_n 0) 1 86 from ⟨by decide +kernel, rfl⟩) ?_
    refine J_getR (show Dc Y_X11_alters 86 (.getfield 37) 3 89 from ⟨by decide +kernel, rfl⟩) w_f_RX11_37 rfl (fun v7 => ?_)
    refine J_aload_n rfl rfl (show Dc Y_X11_alters 89 (.aload_n 0) 1 90 from ⟨by decide +kernel, rfl⟩) ?_
    refine J_getR (show Dc Y_X11_alters 90 (.getfield 30) 3 93 from ⟨by decide +kernel, rfl⟩) w_f_RX11_30 rfl (fun v8 => ?_)
    refine J_callVv (fun r => r) (show Dc Y_X11_alters 93 (.invokevirtual 289) 3 96 from ⟨by decide +kernel, rfl⟩) w_m_RX11_289 w_in_X10_follow rfl w_se_X10_follow w_cw_X10_follow (c_X10_follow N v5 v6 v7 v8 g4) rfl rfl (by decide) (Nat.le_of_ble_eq_true rfl) (by decide) (by decide) (fun g9 => ?_)
    refine J_aload_n rfl rfl (show Dc Y_X11_alters 96 (.aload_n 0) 1 97 from ⟨by decide +kernel, rfl⟩) ?_
    refine J_getR (show Dc Y_X11_alters 97 (.getfield 79) 3 100 from ⟨by decide +kernel, rfl⟩) w_f_RX11_79 rfl (fun v10 => ?_)
    refine J_aload_n rfl rfl (show Dc Y_X11_alters 100 (.aload_n 0) 1 101 from ⟨by decide +kernel, rfl⟩) ?_
    refine J_getR (show Dc Y_X11_alters 101 (.getfield 83) 3 104 from ⟨by decide +kernel, rfl⟩) w_f_RX11_83 rfl (fun v11 => ?_)
    refine J_callVi (fun r => r) (fun _ => g9) (show Dc Y_X11_alters 104 (.invokevirtual 348) 3 107 from ⟨by decide +kernel, rfl⟩) w_m_RX11_348 w_in_X10_differsAt rfl w_se_X10_differsAt w_cw_X10_differsAt (c_X10_differsAt N v10 v11 g9) rfl rfl (by decide) (Nat.le_of_ble_eq_true rfl) (by decide) (by decide) (fun v12 => ?_)
    refine J_istore_n [some (.ref x0), none, some (.int x2), some (.int v12)] (show Dc Y_X11_alters 107 (.istore_n 3) 1 108 from ⟨by decide +kernel, rfl⟩) rfl (by decide) rfl rfl ?_
    refine J_iload_n rfl rfl (show Dc Y_X11_alters 108 (.iload_n 3) 1 109 from ⟨by decide +kernel, rfl⟩) ?_
    refine J_iconst (-1 : Int32) rfl (show Dc Y_X11_alters 109 (.iconst (-1)) 1 110 from ⟨by decide +kernel, rfl⟩) ?_
    refine J_icmp_eq (tg := 133) (show Dc Y_X11_alters 110 (.if_icmp .eq 23) 3 113 from ⟨by decide +kernel, rfl⟩) (by decide) (fun h => ?_) (fun h => ?_)
    · refine J_iinc (1 : Int32) [some (.ref x0), none, some (.int (x2 + (1 : Int32))), some (.int v12)] (show Dc Y_X11_alters 133 (.iinc 2 1) 3 136 from ⟨by decide +kernel, rfl⟩) rfl rfl (by decide) rfl rfl ?_
      refine J_goto (tg := 52) (show Dc Y_X11_alters 136 (.goto (-84)) 3 139 from ⟨by decide +kernel, rfl⟩) (by decide) ?_
      refine J_mask [true, false, true, false] ?_
      exact J_leaf (fun h => hL52 (x2 + (1 : Int32), g9) h)
    · refine J_map (f := Sum.inr) (fun _ h => h) ?_
      refine J_aload_n rfl rfl (show Dc Y_X11_alters 113 (.aload_n 0) 1 114 from ⟨by decide +kernel, rfl⟩) ?_
      refine J_getR (show Dc Y_X11_alters 114 (.getfield 19) 3 117 from ⟨by decide +kernel, rfl⟩) w_f_RX11_19 rfl (fun v13 => ?_)
      refine J_iload_n rfl rfl (show Dc Y_X11_alters 117 (.iload_n 3) 1 118 from ⟨by decide +kernel, rfl⟩) ?_
      refine J_i2l (show Dc Y_X11_alters 118 (.i2l) 1 119 from ⟨by decide +kernel, rfl⟩) ?_
      refine J_aload_n rfl rfl (show Dc Y_X11_alters 119 (.aload_n 0) 1 120 from ⟨by decide +kernel, rfl⟩) ?_
      refine J_getR (show Dc Y_X11_alters 120 (.getfield 83) 3 123 from ⟨by decide +kernel, rfl⟩) w_f_RX11_83 rfl (fun v14 => ?_)
      refine J_iload_n rfl rfl (show Dc Y_X11_alters 123 (.iload_n 3) 1 124 from ⟨by decide +kernel, rfl⟩) ?_
      refine J_callVi (fun r => r) (fun _ => g9) (show Dc Y_X11_alters 124 (.invokevirtual 293) 3 127 from ⟨by decide +kernel, rfl⟩) w_m_RX11_293 w_in_X10_at rfl w_se_X10_at w_cw_X10_at (c_X10_at v14 v12 g9) rfl rfl (by decide) (Nat.le_of_ble_eq_true rfl) (by decide) (by decide) (fun v15 => ?_)
      refine J_i2l (show Dc Y_X11_alters 127 (.i2l) 1 128 from ⟨by decide +kernel, rfl⟩) ?_
      refine J_callVv (fun r => r) (show Dc Y_X11_alters 128 (.invokevirtual 317) 3 131 from ⟨by decide +kernel, rfl⟩) w_m_RX11_317 w_in_X9_pair rfl w_se_X9_pair w_cw_X9_pair (c_X9_pair v13 v12.toInt64 v15.toInt64 g9) rfl rfl (by decide) (Nat.le_of_ble_eq_true rfl) (by decide) (by decide) (fun g16 => ?_)
      refine J_iload_n rfl rfl (show Dc Y_X11_alters 131 (.iload_n 2) 1 132 from ⟨by decide +kernel, rfl⟩) ?_
      exact J_reti (show Dc Y_X11_alters 132 (.ireturn) 1 133 from ⟨by decide +kernel, rfl⟩) rfl (h0 _ _) (by decide) (by decide)

theorem j_X11_alters {X : ZX} (N : Nat) (x0 : Nat) (x1 : Int32)   (g : ZS) {K : (Int32 × ZS) → Prop} (h0 : ∀ v g, K (v, g) → xK X (some (.int v)) g) : J Y_X11_alters X 0 0 0 [some (.ref x0), some (.int x1), none, none] [] g (f_X11_alters N x0 x1 g) K := by
  unfold f_X11_alters
  refine J_aload_n rfl rfl (show Dc Y_X11_alters 0 (.aload_n 0) 1 1 from ⟨by decide +kernel, rfl⟩) ?_
  refine J_iload_n rfl rfl (show Dc Y_X11_alters 1 (.iload_n 1) 1 2 from ⟨by decide +kernel, rfl⟩) ?_
  refine J_callVi (fun r => r) (fun _ => g) (show Dc Y_X11_alters 2 (.invokevirtual 161) 3 5 from ⟨by decide +kernel, rfl⟩) w_m_RX11_161 w_in_X11_isParrot rfl w_se_X11_isParrot w_cw_X11_isParrot (c_X11_isParrot x0 x1 g) rfl rfl (by decide) (Nat.le_of_ble_eq_true rfl) (by decide) (by decide) (fun v1 => ?_)
  refine J_if_ne (tg := 10) (show Dc Y_X11_alters 5 (.ifCond .ne 5) 3 8 from ⟨by decide +kernel, rfl⟩) (by decide) (fun h => ?_) (fun h => ?_)
  · refine J_aload_n rfl rfl (show Dc Y_X11_alters 10 (.aload_n 0) 1 11 from ⟨by decide +kernel, rfl⟩) ?_
    refine J_getR (show Dc Y_X11_alters 11 (.getfield 79) 3 14 from ⟨by decide +kernel, rfl⟩) w_f_RX11_79 rfl (fun v2 => ?_)
    refine J_aload_n rfl rfl (show Dc Y_X11_alters 14 (.aload_n 0) 1 15 from ⟨by decide +kernel, rfl⟩) ?_
    refine J_getR (show Dc Y_X11_alters 15 (.getfield 47) 3 18 from ⟨by decide +kernel, rfl⟩) w_f_RX11_47 rfl (fun v3 => ?_)
    refine J_getR (show Dc Y_X11_alters 18 (.getfield 171) 3 21 from ⟨by decide +kernel, rfl⟩) w_f_RX11_171 rfl (fun v4 => ?_)
    refine J_iload_n rfl rfl (show Dc Y_X11_alters 21 (.iload_n 1) 1 22 from ⟨by decide +kernel, rfl⟩) ?_
    refine J_aald (kd := 25) (by decide) (by decide) (show Dc Y_X11_alters 22 (.aaload) 1 23 from ⟨by decide +kernel, rfl⟩) (fun v5 => ?_)
    refine J_aload_n rfl rfl (show Dc Y_X11_alters 23 (.aload_n 0) 1 24 from ⟨by decide +kernel, rfl⟩) ?_
    refine J_getR (show Dc Y_X11_alters 24 (.getfield 37) 3 27 from ⟨by decide +kernel, rfl⟩) w_f_RX11_37 rfl (fun v6 => ?_)
    refine J_aload_n rfl rfl (show Dc Y_X11_alters 27 (.aload_n 0) 1 28 from ⟨by decide +kernel, rfl⟩) ?_
    refine J_getR (show Dc Y_X11_alters 28 (.getfield 30) 3 31 from ⟨by decide +kernel, rfl⟩) w_f_RX11_30 rfl (fun v7 => ?_)
    refine J_callVv (fun r => r) (show Dc Y_X11_alters 31 (.invokevirtual 289) 3 34 from ⟨by decide +kernel, rfl⟩) w_m_RX11_289 w_in_X10_follow rfl w_se_X10_follow w_cw_X10_follow (c_X10_follow N v2 v5 v6 v7 g) rfl rfl (by decide) (Nat.le_of_ble_eq_true rfl) (by decide) (by decide) (fun g8 => ?_)
    refine J_aload_n rfl rfl (show Dc Y_X11_alters 34 (.aload_n 0) 1 35 from ⟨by decide +kernel, rfl⟩) ?_
    refine J_getR (show Dc Y_X11_alters 35 (.getfield 72) 3 38 from ⟨by decide +kernel, rfl⟩) w_f_RX11_72 rfl (fun v9 => ?_)
    refine J_aload_n rfl rfl (show Dc Y_X11_alters 38 (.aload_n 0) 1 39 from ⟨by decide +kernel, rfl⟩) ?_
    refine J_getR (show Dc Y_X11_alters 39 (.getfield 47) 3 42 from ⟨by decide +kernel, rfl⟩) w_f_RX11_47 rfl (fun v10 => ?_)
    refine J_getR (show Dc Y_X11_alters 42 (.getfield 171) 3 45 from ⟨by decide +kernel, rfl⟩) w_f_RX11_171 rfl (fun v11 => ?_)
    refine J_iload_n rfl rfl (show Dc Y_X11_alters 45 (.iload_n 1) 1 46 from ⟨by decide +kernel, rfl⟩) ?_
    refine J_aald (kd := 25) (by decide) (by decide) (show Dc Y_X11_alters 46 (.aaload) 1 47 from ⟨by decide +kernel, rfl⟩) (fun v12 => ?_)
    refine J_callVv (fun r => r) (show Dc Y_X11_alters 47 (.invokevirtual 345) 3 50 from ⟨by decide +kernel, rfl⟩) w_m_RX11_345 w_in_X0_copyFrom rfl w_se_X0_copyFrom w_cw_X0_copyFrom (c_X0_copyFrom v9 v12 g8) rfl rfl (by decide) (Nat.le_of_ble_eq_true rfl) (by decide) (by decide) (fun g13 => ?_)
    refine J_iconst (1 : Int32) rfl (show Dc Y_X11_alters 50 (.iconst 1) 1 51 from ⟨by decide +kernel, rfl⟩) ?_
    refine J_istore_n [some (.ref x0), some (.int x1), some (.int (1 : Int32)), none] (show Dc Y_X11_alters 51 (.istore_n 2) 1 52 from ⟨by decide +kernel, rfl⟩) rfl (by decide) rfl rfl ?_
    refine J_mask [true, false, true, false] ?_
    exact J_loop (X := X) (K := K) (uc := fun _ => 0) (us := fun _ => 0) (lf := fun s => [some (.ref x0), none, some (.int s.1), none]) (gf := fun s => s.2) (fun s => j_X11_alters_52 (K := zKl Y_X11_alters X 52 (fun _ => 0) (fun _ => 0) (fun s => [some (.ref x0), none, some (.int s.1), none]) (fun s => s.2) K) N x0 s.1 s.2 h0 (fun s h => h)) N ((1 : Int32), g13)
  · refine J_iconst (-1 : Int32) rfl (show Dc Y_X11_alters 8 (.iconst (-1)) 1 9 from ⟨by decide +kernel, rfl⟩) ?_
    exact J_reti (show Dc Y_X11_alters 9 (.ireturn) 1 10 from ⟨by decide +kernel, rfl⟩) rfl (h0 _ _) (by decide) (by decide)

theorem c_X11_alters {l : Launch} {D : ZD} {B0 : Nat} (N : Nat) (x0 : Nat) (x1 : Int32) (g : ZS) : ∀ r, f_X11_alters N x0 x1 g = some r → zCt l D B0 yX11_alters Y_X11_alters [.ref x0, .int x1] g (some (.int r.1)) r.2 :=
  zCt_ofF (vo := fun r => some (.int r.1)) (so := fun r => r.2) (by decide +kernel) rfl (fun h => by cases h) rfl (Nat.le_of_ble_eq_true rfl) (fun X => j_X11_alters N x0 x1 g (fun _ _ h => h))

theorem j_X11_crackers_15 {X : ZX} (N : Nat)    (g : ZS) {K : (Int32 × ZS) → Prop} (h0 : ∀ v g, K (v, g) → xK X (some (.int v)) g) : J Y_X11_crackers X 0 0 15 [none, none, none, none] [] g (f_X11_crackers_15 N g) K := by
  unfold f_X11_crackers_15
  refine J_iconst (-1 : Int32) rfl (show Dc Y_X11_crackers 15 (.iconst (-1)) 1 16 from ⟨by decide +kernel, rfl⟩) ?_
  exact J_reti (show Dc Y_X11_crackers 16 (.ireturn) 1 17 from ⟨by decide +kernel, rfl⟩) rfl (h0 _ _) (by decide) (by decide)

theorem j_X11_crackers_50 {X : ZX} (N : Nat) (x0 : Nat) (x2 : Int32) (x3 : Int32)   (g : ZS) {K : ((Int32 × ZS) ⊕ (Int32 × ZS)) → Prop} (h0 : ∀ v g, K (.inr (v, g)) → xK X (some (.int v)) g) (hL50 : ∀ s, K (.inl s) → zG Y_X11_crackers X 0 0 50 [some (.ref x0), none, some (.int x2), some (.int s.1)] [] s.2) : J Y_X11_crackers X 0 0 50 [some (.ref x0), none, some (.int x2), some (.int x3)] [] g (f_X11_crackers_50 N x0 x2 x3 g) K := by
  unfold f_X11_crackers_50
  refine J_iload_n rfl rfl (show Dc Y_X11_crackers 50 (.iload_n 3) 1 51 from ⟨by decide +kernel, rfl⟩) ?_
  refine J_bipush (40 : Int32) rfl (show Dc Y_X11_crackers 51 (.bipush 40) 2 53 from ⟨by decide +kernel, rfl⟩) ?_
  refine J_icmp_gt (tg := 120) (show Dc Y_X11_crackers 53 (.if_icmp .gt 67) 3 56 from ⟨by decide +kernel, rfl⟩) (by decide) (fun h => ?_) (fun h => ?_)
  · refine J_map (f := Sum.inr) (fun _ h => h) ?_
    refine J_bipush (-2 : Int32) rfl (show Dc Y_X11_crackers 120 (.bipush (-2)) 2 122 from ⟨by decide +kernel, rfl⟩) ?_
    exact J_reti (show Dc Y_X11_crackers 122 (.ireturn) 1 123 from ⟨by decide +kernel, rfl⟩) rfl (h0 _ _) (by decide) (by decide)
  · refine J_aload_n rfl rfl (show Dc Y_X11_crackers 56 (.aload_n 0) 1 57 from ⟨by decide +kernel, rfl⟩) ?_
    refine J_getR (show Dc Y_X11_crackers 57 (.getfield 79) 3 60 from ⟨by decide +kernel, rfl⟩) w_f_RX11_79 rfl (fun v1 => ?_)
    refine J_aload_n rfl rfl (show Dc Y_X11_crackers 60 (.aload_n 0) 1 61 from ⟨by decide +kernel, rfl⟩) ?_
    refine J_getR (show Dc Y_X11_crackers 61 (.getfield 72) 3 64 from ⟨by decide +kernel, rfl⟩) w_f_RX11_72 rfl (fun v2 => ?_)
    refine J_aload_n rfl rfl (show Dc Y_X11_crackers 64 (.aload_n 0) 1 65 from ⟨by decide +kernel, rfl⟩) ?_
    refine J_getR (show Dc Y_X11_crackers 65 (.getfield 37) 3 68 from ⟨by decide +kernel, rfl⟩) w_f_RX11_37 rfl (fun v3 => ?_)
    refine J_aload_n rfl rfl (show Dc Y_X11_crackers 68 (.aload_n 0) 1 69 from ⟨by decide +kernel, rfl⟩) ?_
    refine J_getR (show Dc Y_X11_crackers 69 (.getfield 30) 3 72 from ⟨by decide +kernel, rfl⟩) w_f_RX11_30 rfl (fun v4 => ?_)
    refine J_callVv (fun r => r) (show Dc Y_X11_crackers 72 (.invokevirtual 289) 3 75 from ⟨by decide +kernel, rfl⟩) w_m_RX11_289 w_in_X10_follow rfl w_se_X10_follow w_cw_X10_follow (c_X10_follow N v1 v2 v3 v4 g) rfl rfl (by decide) (Nat.le_of_ble_eq_true rfl) (by decide) (by decide) (fun g5 => ?_)
    refine J_aload_n rfl rfl (show Dc Y_X11_crackers 75 (.aload_n 0) 1 76 from ⟨by decide +kernel, rfl⟩) ?_
    refine J_getR (show Dc Y_X11_crackers 76 (.getfield 79) 3 79 from ⟨by decide +kernel, rfl⟩) w_f_RX11_79 rfl (fun v6 => ?_)
    refine J_iconst (0 : Int32) rfl (show Dc Y_X11_crackers 79 (.iconst 0) 1 80 from ⟨by decide +kernel, rfl⟩) ?_
    refine J_callVi (fun r => r) (fun _ => g5) (show Dc Y_X11_crackers 80 (.invokevirtual 293) 3 83 from ⟨by decide +kernel, rfl⟩) w_m_RX11_293 w_in_X10_at rfl w_se_X10_at w_cw_X10_at (c_X10_at v6 (0 : Int32) g5) rfl rfl (by decide) (Nat.le_of_ble_eq_true rfl) (by decide) (by decide) (fun v7 => ?_)
    refine J_iload_n rfl rfl (show Dc Y_X11_crackers 83 (.iload_n 2) 1 84 from ⟨by decide +kernel, rfl⟩) ?_
    refine J_icmp_ne (tg := 89) (show Dc Y_X11_crackers 84 (.if_icmp .ne 5) 3 87 from ⟨by decide +kernel, rfl⟩) (by decide) (fun h => ?_) (fun h => ?_)
    · refine J_aload_n rfl rfl (show Dc Y_X11_crackers 89 (.aload_n 0) 1 90 from ⟨by decide +kernel, rfl⟩) ?_
      refine J_getR (show Dc Y_X11_crackers 90 (.getfield 72) 3 93 from ⟨by decide +kernel, rfl⟩) w_f_RX11_72 rfl (fun v8 => ?_)
      refine J_getR (show Dc Y_X11_crackers 93 (.getfield 210) 3 96 from ⟨by decide +kernel, rfl⟩) w_f_RX11_210 rfl (fun v9 => ?_)
      refine J_iload_n rfl rfl (show Dc Y_X11_crackers 96 (.iload_n 2) 1 97 from ⟨by decide +kernel, rfl⟩) ?_
      refine J_bipush (99 : Int32) rfl (show Dc Y_X11_crackers 97 (.bipush 99) 2 99 from ⟨by decide +kernel, rfl⟩) ?_
      refine J_aload_n rfl rfl (show Dc Y_X11_crackers 99 (.aload_n 0) 1 100 from ⟨by decide +kernel, rfl⟩) ?_
      refine J_getR (show Dc Y_X11_crackers 100 (.getfield 72) 3 103 from ⟨by decide +kernel, rfl⟩) w_f_RX11_72 rfl (fun v10 => ?_)
      refine J_getR (show Dc Y_X11_crackers 103 (.getfield 210) 3 106 from ⟨by decide +kernel, rfl⟩) w_f_RX11_210 rfl (fun v11 => ?_)
      refine J_iload_n rfl rfl (show Dc Y_X11_crackers 106 (.iload_n 2) 1 107 from ⟨by decide +kernel, rfl⟩) ?_
      refine J_iald (show Dc Y_X11_crackers 107 (.iaload) 1 108 from ⟨by decide +kernel, rfl⟩) (fun v12 => ?_)
      refine J_iconst (1 : Int32) rfl (show Dc Y_X11_crackers 108 (.iconst 1) 1 109 from ⟨by decide +kernel, rfl⟩) ?_
      refine J_iadd (show Dc Y_X11_crackers 109 (.iadd) 1 110 from ⟨by decide +kernel, rfl⟩) ?_
      refine J_callSi (fun r => r) (fun _ => g5) (show Dc Y_X11_crackers 110 (.invokestatic 233) 3 113 from ⟨by decide +kernel, rfl⟩) w_m_RX11_233 w_st_J9_min_7cf53 w_cw_J9_min_7cf53 (c_J9_min_7cf53 (99 : Int32) (v12 + (1 : Int32)) g5) rfl rfl (by decide) (Nat.le_of_ble_eq_true rfl) (by decide) (by decide) (fun v13 => ?_)
      refine J_iast (show Dc Y_X11_crackers 113 (.iastore) 1 114 from ⟨by decide +kernel, rfl⟩) (fun g14 => ?_)
      refine J_iinc (1 : Int32) [some (.ref x0), none, some (.int x2), some (.int (x3 + (1 : Int32)))] (show Dc Y_X11_crackers 114 (.iinc 3 1) 3 117 from ⟨by decide +kernel, rfl⟩) rfl rfl (by decide) rfl rfl ?_
      refine J_goto (tg := 50) (show Dc Y_X11_crackers 117 (.goto (-67)) 3 120 from ⟨by decide +kernel, rfl⟩) (by decide) ?_
      exact J_leaf (fun h => hL50 (x3 + (1 : Int32), g14) h)
    · refine J_map (f := Sum.inr) (fun _ h => h) ?_
      refine J_iload_n rfl rfl (show Dc Y_X11_crackers 87 (.iload_n 3) 1 88 from ⟨by decide +kernel, rfl⟩) ?_
      exact J_reti (show Dc Y_X11_crackers 88 (.ireturn) 1 89 from ⟨by decide +kernel, rfl⟩) rfl (h0 _ _) (by decide) (by decide)

theorem j_X11_crackers {X : ZX} (N : Nat) (x0 : Nat) (x1 : Int32) (x2 : Int32)   (g : ZS) {K : (Int32 × ZS) → Prop} (h0 : ∀ v g, K (v, g) → xK X (some (.int v)) g) : J Y_X11_crackers X 0 0 0 [some (.ref x0), some (.int x1), some (.int x2), none] [] g (f_X11_crackers N x0 x1 x2 g) K := by
  unfold f_X11_crackers
  refine J_aload_n rfl rfl (show Dc Y_X11_crackers 0 (.aload_n 0) 1 1 from ⟨by decide +kernel, rfl⟩) ?_
  refine J_iload_n rfl rfl (show Dc Y_X11_crackers 1 (.iload_n 1) 1 2 from ⟨by decide +kernel, rfl⟩) ?_
  refine J_callVi (fun r => r) (fun _ => g) (show Dc Y_X11_crackers 2 (.invokevirtual 161) 3 5 from ⟨by decide +kernel, rfl⟩) w_m_RX11_161 w_in_X11_isParrot rfl w_se_X11_isParrot w_cw_X11_isParrot (c_X11_isParrot x0 x1 g) rfl rfl (by decide) (Nat.le_of_ble_eq_true rfl) (by decide) (by decide) (fun v1 => ?_)
  refine J_if_eq (tg := 15) (show Dc Y_X11_crackers 5 (.ifCond .eq 10) 3 8 from ⟨by decide +kernel, rfl⟩) (by decide) (fun h => ?_) (fun h => ?_)
  · refine J_mask [false, false, false, false] ?_
    exact j_X11_crackers_15 N g h0
  · refine J_iload_n rfl rfl (show Dc Y_X11_crackers 8 (.iload_n 2) 1 9 from ⟨by decide +kernel, rfl⟩) ?_
    refine J_callSi (fun r => r) (fun _ => g) (show Dc Y_X11_crackers 9 (.invokestatic 196) 3 12 from ⟨by decide +kernel, rfl⟩) w_m_RX11_196 w_st_X11_isWord w_cw_X11_isWord (c_X11_isWord x2 g) rfl rfl (by decide) (Nat.le_of_ble_eq_true rfl) (by decide) (by decide) (fun v2 => ?_)
    refine J_if_ne (tg := 17) (show Dc Y_X11_crackers 12 (.ifCond .ne 5) 3 15 from ⟨by decide +kernel, rfl⟩) (by decide) (fun h => ?_) (fun h => ?_)
    · refine J_aload_n rfl rfl (show Dc Y_X11_crackers 17 (.aload_n 0) 1 18 from ⟨by decide +kernel, rfl⟩) ?_
      refine J_getR (show Dc Y_X11_crackers 18 (.getfield 72) 3 21 from ⟨by decide +kernel, rfl⟩) w_f_RX11_72 rfl (fun v3 => ?_)
      refine J_aload_n rfl rfl (show Dc Y_X11_crackers 21 (.aload_n 0) 1 22 from ⟨by decide +kernel, rfl⟩) ?_
      refine J_getR (show Dc Y_X11_crackers 22 (.getfield 47) 3 25 from ⟨by decide +kernel, rfl⟩) w_f_RX11_47 rfl (fun v4 => ?_)
      refine J_getR (show Dc Y_X11_crackers 25 (.getfield 171) 3 28 from ⟨by decide +kernel, rfl⟩) w_f_RX11_171 rfl (fun v5 => ?_)
      refine J_iload_n rfl rfl (show Dc Y_X11_crackers 28 (.iload_n 1) 1 29 from ⟨by decide +kernel, rfl⟩) ?_
      refine J_aald (kd := 25) (by decide) (by decide) (show Dc Y_X11_crackers 29 (.aaload) 1 30 from ⟨by decide +kernel, rfl⟩) (fun v6 => ?_)
      refine J_callVv (fun r => r) (show Dc Y_X11_crackers 30 (.invokevirtual 345) 3 33 from ⟨by decide +kernel, rfl⟩) w_m_RX11_345 w_in_X0_copyFrom rfl w_se_X0_copyFrom w_cw_X0_copyFrom (c_X0_copyFrom v3 v6 g) rfl rfl (by decide) (Nat.le_of_ble_eq_true rfl) (by decide) (by decide) (fun g7 => ?_)
      refine J_aload_n rfl rfl (show Dc Y_X11_crackers 33 (.aload_n 0) 1 34 from ⟨by decide +kernel, rfl⟩) ?_
      refine J_getR (show Dc Y_X11_crackers 34 (.getfield 72) 3 37 from ⟨by decide +kernel, rfl⟩) w_f_RX11_72 rfl (fun v8 => ?_)
      refine J_getR (show Dc Y_X11_crackers 37 (.getfield 201) 3 40 from ⟨by decide +kernel, rfl⟩) w_f_RX11_201 rfl (fun v9 => ?_)
      refine J_iload_n rfl rfl (show Dc Y_X11_crackers 40 (.iload_n 2) 1 41 from ⟨by decide +kernel, rfl⟩) ?_
      refine J_iald (show Dc Y_X11_crackers 41 (.iaload) 1 42 from ⟨by decide +kernel, rfl⟩) (fun v10 => ?_)
      refine J_if_ne (tg := 48) (show Dc Y_X11_crackers 42 (.ifCond .ne 6) 3 45 from ⟨by decide +kernel, rfl⟩) (by decide) (fun h => ?_) (fun h => ?_)
      · refine J_iconst (0 : Int32) rfl (show Dc Y_X11_crackers 48 (.iconst 0) 1 49 from ⟨by decide +kernel, rfl⟩) ?_
        refine J_istore_n [some (.ref x0), some (.int x1), some (.int x2), some (.int (0 : Int32))] (show Dc Y_X11_crackers 49 (.istore_n 3) 1 50 from ⟨by decide +kernel, rfl⟩) rfl (by decide) rfl rfl ?_
        refine J_mask [true, false, true, true] ?_
        exact J_loop (X := X) (K := K) (uc := fun _ => 0) (us := fun _ => 0) (lf := fun s => [some (.ref x0), none, some (.int x2), some (.int s.1)]) (gf := fun s => s.2) (fun s => j_X11_crackers_50 (K := zKl Y_X11_crackers X 50 (fun _ => 0) (fun _ => 0) (fun s => [some (.ref x0), none, some (.int x2), some (.int s.1)]) (fun s => s.2) K) N x0 x2 s.1 s.2 h0 (fun s h => h)) N ((0 : Int32), g7)
      · refine J_bipush (-2 : Int32) rfl (show Dc Y_X11_crackers 45 (.bipush (-2)) 2 47 from ⟨by decide +kernel, rfl⟩) ?_
        exact J_reti (show Dc Y_X11_crackers 47 (.ireturn) 1 48 from ⟨by decide +kernel, rfl⟩) rfl (h0 _ _) (by decide) (by decide)
    · refine J_mask [false, false, false, false] ?_
      exact j_X11_crackers_15 N g h0

theorem c_X11_crackers {l : Launch} {D : ZD} {B0 : Nat} (N : Nat) (x0 : Nat) (x1 : Int32) (x2 : Int32) (g : ZS) : ∀ r, f_X11_crackers N x0 x1 x2 g = some r → zCt l D B0 yX11_crackers Y_X11_crackers [.ref x0, .int x1, .int x2] g (some (.int r.1)) r.2 :=
  zCt_ofF (vo := fun r => some (.int r.1)) (so := fun r => r.2) (by decide +kernel) rfl (fun h => by cases h) rfl (Nat.le_of_ble_eq_true rfl) (fun X => j_X11_crackers N x0 x1 x2 g (fun _ _ h => h))

theorem j_X11_stay_22 {X : ZX} (N : Nat)    (g : ZS) {K : (Int32 × ZS) → Prop} (h0 : ∀ v g, K (v, g) → xK X (some (.int v)) g) : J Y_X11_stay X 0 0 22 [none, none, none, none, none] [] g (f_X11_stay_22 N g) K := by
  unfold f_X11_stay_22
  refine J_iconst (-1 : Int32) rfl (show Dc Y_X11_stay 22 (.iconst (-1)) 1 23 from ⟨by decide +kernel, rfl⟩) ?_
  exact J_reti (show Dc Y_X11_stay 23 (.ireturn) 1 24 from ⟨by decide +kernel, rfl⟩) rfl (h0 _ _) (by decide) (by decide)

theorem j_X11_stay_59 {X : ZX} (N : Nat) (x0 : Nat) (x3 : Int32) (x4 : Int32)   (g : ZS) {K : ((Int32 × ZS) ⊕ (Int32 × ZS)) → Prop} (h0 : ∀ v g, K (.inr (v, g)) → xK X (some (.int v)) g) (hL59 : ∀ s, K (.inl s) → zG Y_X11_stay X 0 0 59 [some (.ref x0), none, none, some (.int x3), some (.int s.1)] [] s.2) : J Y_X11_stay X 0 0 59 [some (.ref x0), none, none, some (.int x3), some (.int x4)] [] g (f_X11_stay_59 N x0 x3 x4 g) K := by
  unfold f_X11_stay_59
  refine J_iload rfl (show Dc Y_X11_stay 59 (.iload 4) 2 61 from ⟨by decide +kernel, rfl⟩) ?_
  refine J_bipush (60 : Int32) rfl (show Dc Y_X11_stay 61 (.bipush 60) 2 63 from ⟨by decide +kernel, rfl⟩) ?_
  refine J_icmp_gt (tg := 124) (show Dc Y_X11_stay 63 (.if_icmp .gt 61) 3 66 from ⟨by decide +kernel, rfl⟩) (by decide) (fun h => ?_) (fun h => ?_)
  · refine J_map (f := Sum.inr) (fun _ h => h) ?_
    refine J_bipush (-2 : Int32) rfl (show Dc Y_X11_stay 124 (.bipush (-2)) 2 126 from ⟨by decide +kernel, rfl⟩) ?_
    exact J_reti (show Dc Y_X11_stay 126 (.ireturn) 1 127 from ⟨by decide +kernel, rfl⟩) rfl (h0 _ _) (by decide) (by decide)
  · refine J_aload_n rfl rfl (show Dc Y_X11_stay 66 (.aload_n 0) 1 67 from ⟨by decide +kernel, rfl⟩) ?_
    refine J_getR (show Dc Y_X11_stay 67 (.getfield 79) 3 70 from ⟨by decide +kernel, rfl⟩) w_f_RX11_79 rfl (fun v1 => ?_)
    refine J_aload_n rfl rfl (show Dc Y_X11_stay 70 (.aload_n 0) 1 71 from ⟨by decide +kernel, rfl⟩) ?_
    refine J_getR (show Dc Y_X11_stay 71 (.getfield 72) 3 74 from ⟨by decide +kernel, rfl⟩) w_f_RX11_72 rfl (fun v2 => ?_)
    refine J_aload_n rfl rfl (show Dc Y_X11_stay 74 (.aload_n 0) 1 75 from ⟨by decide +kernel, rfl⟩) ?_
    refine J_getR (show Dc Y_X11_stay 75 (.getfield 37) 3 78 from ⟨by decide +kernel, rfl⟩) w_f_RX11_37 rfl (fun v3 => ?_)
    refine J_aload_n rfl rfl (show Dc Y_X11_stay 78 (.aload_n 0) 1 79 from ⟨by decide +kernel, rfl⟩) ?_
    refine J_getR (show Dc Y_X11_stay 79 (.getfield 30) 3 82 from ⟨by decide +kernel, rfl⟩) w_f_RX11_30 rfl (fun v4 => ?_)
    refine J_callVv (fun r => r) (show Dc Y_X11_stay 82 (.invokevirtual 289) 3 85 from ⟨by decide +kernel, rfl⟩) w_m_RX11_289 w_in_X10_follow rfl w_se_X10_follow w_cw_X10_follow (c_X10_follow N v1 v2 v3 v4 g) rfl rfl (by decide) (Nat.le_of_ble_eq_true rfl) (by decide) (by decide) (fun g5 => ?_)
    refine J_aload_n rfl rfl (show Dc Y_X11_stay 85 (.aload_n 0) 1 86 from ⟨by decide +kernel, rfl⟩) ?_
    refine J_getR (show Dc Y_X11_stay 86 (.getfield 79) 3 89 from ⟨by decide +kernel, rfl⟩) w_f_RX11_79 rfl (fun v6 => ?_)
    refine J_iconst (0 : Int32) rfl (show Dc Y_X11_stay 89 (.iconst 0) 1 90 from ⟨by decide +kernel, rfl⟩) ?_
    refine J_callVi (fun r => r) (fun _ => g5) (show Dc Y_X11_stay 90 (.invokevirtual 293) 3 93 from ⟨by decide +kernel, rfl⟩) w_m_RX11_293 w_in_X10_at rfl w_se_X10_at w_cw_X10_at (c_X10_at v6 (0 : Int32) g5) rfl rfl (by decide) (Nat.le_of_ble_eq_true rfl) (by decide) (by decide) (fun v7 => ?_)
    refine J_iload_n rfl rfl (show Dc Y_X11_stay 93 (.iload_n 3) 1 94 from ⟨by decide +kernel, rfl⟩) ?_
    refine J_icmp_ne (tg := 100) (show Dc Y_X11_stay 94 (.if_icmp .ne 6) 3 97 from ⟨by decide +kernel, rfl⟩) (by decide) (fun h => ?_) (fun h => ?_)
    · refine J_aload_n rfl rfl (show Dc Y_X11_stay 100 (.aload_n 0) 1 101 from ⟨by decide +kernel, rfl⟩) ?_
      refine J_aload_n rfl rfl (show Dc Y_X11_stay 101 (.aload_n 0) 1 102 from ⟨by decide +kernel, rfl⟩) ?_
      refine J_getR (show Dc Y_X11_stay 102 (.getfield 72) 3 105 from ⟨by decide +kernel, rfl⟩) w_f_RX11_72 rfl (fun v8 => ?_)
      refine J_aload_n rfl rfl (show Dc Y_X11_stay 105 (.aload_n 0) 1 106 from ⟨by decide +kernel, rfl⟩) ?_
      refine J_getR (show Dc Y_X11_stay 106 (.getfield 47) 3 109 from ⟨by decide +kernel, rfl⟩) w_f_RX11_47 rfl (fun v9 => ?_)
      refine J_getI (show Dc Y_X11_stay 109 (.getfield 219) 3 112 from ⟨by decide +kernel, rfl⟩) w_f_RX11_219 rfl (fun v10 => ?_)
      refine J_iload rfl (show Dc Y_X11_stay 112 (.iload 4) 2 114 from ⟨by decide +kernel, rfl⟩) ?_
      refine J_iadd (show Dc Y_X11_stay 114 (.iadd) 1 115 from ⟨by decide +kernel, rfl⟩) ?_
      refine J_callVv (fun r => r) (show Dc Y_X11_stay 115 (.invokevirtual 263) 3 118 from ⟨by decide +kernel, rfl⟩) w_m_RX11_263 w_in_X11_listenOn rfl w_se_X11_listenOn w_cw_X11_listenOn (c_X11_listenOn x0 v8 (v10 + x4) g5) rfl rfl (by decide) (Nat.le_of_ble_eq_true rfl) (by decide) (by decide) (fun g11 => ?_)
      refine J_iinc (1 : Int32) [some (.ref x0), none, none, some (.int x3), some (.int (x4 + (1 : Int32)))] (show Dc Y_X11_stay 118 (.iinc 4 1) 3 121 from ⟨by decide +kernel, rfl⟩) rfl rfl (by decide) rfl rfl ?_
      refine J_goto (tg := 59) (show Dc Y_X11_stay 121 (.goto (-62)) 3 124 from ⟨by decide +kernel, rfl⟩) (by decide) ?_
      exact J_leaf (fun h => hL59 (x4 + (1 : Int32), g11) h)
    · refine J_map (f := Sum.inr) (fun _ h => h) ?_
      refine J_iload rfl (show Dc Y_X11_stay 97 (.iload 4) 2 99 from ⟨by decide +kernel, rfl⟩) ?_
      exact J_reti (show Dc Y_X11_stay 99 (.ireturn) 1 100 from ⟨by decide +kernel, rfl⟩) rfl (h0 _ _) (by decide) (by decide)

theorem j_X11_stay {X : ZX} (N : Nat) (x0 : Nat) (x1 : Int32) (x2 : Int32) (x3 : Int32)   (g : ZS) {K : (Int32 × ZS) → Prop} (h0 : ∀ v g, K (v, g) → xK X (some (.int v)) g) : J Y_X11_stay X 0 0 0 [some (.ref x0), some (.int x1), some (.int x2), some (.int x3), none] [] g (f_X11_stay N x0 x1 x2 x3 g) K := by
  unfold f_X11_stay
  refine J_aload_n rfl rfl (show Dc Y_X11_stay 0 (.aload_n 0) 1 1 from ⟨by decide +kernel, rfl⟩) ?_
  refine J_iload_n rfl rfl (show Dc Y_X11_stay 1 (.iload_n 1) 1 2 from ⟨by decide +kernel, rfl⟩) ?_
  refine J_callVi (fun r => r) (fun _ => g) (show Dc Y_X11_stay 2 (.invokevirtual 161) 3 5 from ⟨by decide +kernel, rfl⟩) w_m_RX11_161 w_in_X11_isParrot rfl w_se_X11_isParrot w_cw_X11_isParrot (c_X11_isParrot x0 x1 g) rfl rfl (by decide) (Nat.le_of_ble_eq_true rfl) (by decide) (by decide) (fun v1 => ?_)
  refine J_if_eq (tg := 22) (show Dc Y_X11_stay 5 (.ifCond .eq 17) 3 8 from ⟨by decide +kernel, rfl⟩) (by decide) (fun h => ?_) (fun h => ?_)
  · refine J_mask [false, false, false, false, false] ?_
    exact j_X11_stay_22 N g h0
  · refine J_iload_n rfl rfl (show Dc Y_X11_stay 8 (.iload_n 2) 1 9 from ⟨by decide +kernel, rfl⟩) ?_
    refine J_callSi (fun r => r) (fun _ => g) (show Dc Y_X11_stay 9 (.invokestatic 114) 3 12 from ⟨by decide +kernel, rfl⟩) w_m_RX11_114 w_st_X11_isHouse w_cw_X11_isHouse (c_X11_isHouse x2 g) rfl rfl (by decide) (Nat.le_of_ble_eq_true rfl) (by decide) (by decide) (fun v2 => ?_)
    refine J_if_eq (tg := 22) (show Dc Y_X11_stay 12 (.ifCond .eq 10) 3 15 from ⟨by decide +kernel, rfl⟩) (by decide) (fun h => ?_) (fun h => ?_)
    · refine J_mask [false, false, false, false, false] ?_
      exact j_X11_stay_22 N g h0
    · refine J_iload_n rfl rfl (show Dc Y_X11_stay 15 (.iload_n 3) 1 16 from ⟨by decide +kernel, rfl⟩) ?_
      refine J_callSi (fun r => r) (fun _ => g) (show Dc Y_X11_stay 16 (.invokestatic 196) 3 19 from ⟨by decide +kernel, rfl⟩) w_m_RX11_196 w_st_X11_isWord w_cw_X11_isWord (c_X11_isWord x3 g) rfl rfl (by decide) (Nat.le_of_ble_eq_true rfl) (by decide) (by decide) (fun v3 => ?_)
      refine J_if_ne (tg := 24) (show Dc Y_X11_stay 19 (.ifCond .ne 5) 3 22 from ⟨by decide +kernel, rfl⟩) (by decide) (fun h => ?_) (fun h => ?_)
      · refine J_aload_n rfl rfl (show Dc Y_X11_stay 24 (.aload_n 0) 1 25 from ⟨by decide +kernel, rfl⟩) ?_
        refine J_getR (show Dc Y_X11_stay 25 (.getfield 72) 3 28 from ⟨by decide +kernel, rfl⟩) w_f_RX11_72 rfl (fun v4 => ?_)
        refine J_aload_n rfl rfl (show Dc Y_X11_stay 28 (.aload_n 0) 1 29 from ⟨by decide +kernel, rfl⟩) ?_
        refine J_getR (show Dc Y_X11_stay 29 (.getfield 47) 3 32 from ⟨by decide +kernel, rfl⟩) w_f_RX11_47 rfl (fun v5 => ?_)
        refine J_getR (show Dc Y_X11_stay 32 (.getfield 171) 3 35 from ⟨by decide +kernel, rfl⟩) w_f_RX11_171 rfl (fun v6 => ?_)
        refine J_iload_n rfl rfl (show Dc Y_X11_stay 35 (.iload_n 1) 1 36 from ⟨by decide +kernel, rfl⟩) ?_
        refine J_aald (kd := 25) (by decide) (by decide) (show Dc Y_X11_stay 36 (.aaload) 1 37 from ⟨by decide +kernel, rfl⟩) (fun v7 => ?_)
        refine J_callVv (fun r => r) (show Dc Y_X11_stay 37 (.invokevirtual 345) 3 40 from ⟨by decide +kernel, rfl⟩) w_m_RX11_345 w_in_X0_copyFrom rfl w_se_X0_copyFrom w_cw_X0_copyFrom (c_X0_copyFrom v4 v7 g) rfl rfl (by decide) (Nat.le_of_ble_eq_true rfl) (by decide) (by decide) (fun g8 => ?_)
        refine J_aload_n rfl rfl (show Dc Y_X11_stay 40 (.aload_n 0) 1 41 from ⟨by decide +kernel, rfl⟩) ?_
        refine J_getR (show Dc Y_X11_stay 41 (.getfield 72) 3 44 from ⟨by decide +kernel, rfl⟩) w_f_RX11_72 rfl (fun v9 => ?_)
        refine J_iload_n rfl rfl (show Dc Y_X11_stay 44 (.iload_n 2) 1 45 from ⟨by decide +kernel, rfl⟩) ?_
        refine J_putI (show Dc Y_X11_stay 45 (.putfield 175) 3 48 from ⟨by decide +kernel, rfl⟩) w_f_RX11_175 rfl rfl (fun g10 => ?_) (fun h => by cases h)
        refine J_aload_n rfl rfl (show Dc Y_X11_stay 48 (.aload_n 0) 1 49 from ⟨by decide +kernel, rfl⟩) ?_
        refine J_getR (show Dc Y_X11_stay 49 (.getfield 72) 3 52 from ⟨by decide +kernel, rfl⟩) w_f_RX11_72 rfl (fun v11 => ?_)
        refine J_iconst (0 : Int32) rfl (show Dc Y_X11_stay 52 (.iconst 0) 1 53 from ⟨by decide +kernel, rfl⟩) ?_
        refine J_putZ (show Dc Y_X11_stay 53 (.putfield 181) 3 56 from ⟨by decide +kernel, rfl⟩) w_f_RX11_181 rfl rfl (fun g12 => ?_) (fun h => by cases h)
        refine J_iconst (0 : Int32) rfl (show Dc Y_X11_stay 56 (.iconst 0) 1 57 from ⟨by decide +kernel, rfl⟩) ?_
        refine J_istore [some (.ref x0), some (.int x1), some (.int x2), some (.int x3), some (.int (0 : Int32))] (show Dc Y_X11_stay 57 (.istore 4) 2 59 from ⟨by decide +kernel, rfl⟩) (by decide) rfl rfl ?_
        refine J_mask [true, false, false, true, true] ?_
        exact J_loop (X := X) (K := K) (uc := fun _ => 0) (us := fun _ => 0) (lf := fun s => [some (.ref x0), none, none, some (.int x3), some (.int s.1)]) (gf := fun s => s.2) (fun s => j_X11_stay_59 (K := zKl Y_X11_stay X 59 (fun _ => 0) (fun _ => 0) (fun s => [some (.ref x0), none, none, some (.int x3), some (.int s.1)]) (fun s => s.2) K) N x0 x3 s.1 s.2 h0 (fun s h => h)) N ((0 : Int32), g12)
      · refine J_mask [false, false, false, false, false] ?_
        exact j_X11_stay_22 N g h0

theorem c_X11_stay {l : Launch} {D : ZD} {B0 : Nat} (N : Nat) (x0 : Nat) (x1 : Int32) (x2 : Int32) (x3 : Int32) (g : ZS) : ∀ r, f_X11_stay N x0 x1 x2 x3 g = some r → zCt l D B0 yX11_stay Y_X11_stay [.ref x0, .int x1, .int x2, .int x3] g (some (.int r.1)) r.2 :=
  zCt_ofF (vo := fun r => some (.int r.1)) (so := fun r => r.2) (by decide +kernel) rfl (fun h => by cases h) rfl (Nat.le_of_ble_eq_true rfl) (fun X => j_X11_stay N x0 x1 x2 x3 g (fun _ _ h => h))

theorem j_X11_years_11 {X : ZX} (N : Nat)    (g : ZS) {K : (Int32 × ZS) → Prop} (h0 : ∀ v g, K (v, g) → xK X (some (.int v)) g) : J Y_X11_years X 0 0 11 [none, none, none, none, none, none] [] g (f_X11_years_11 N g) K := by
  unfold f_X11_years_11
  refine J_iconst (-1 : Int32) rfl (show Dc Y_X11_years 11 (.iconst (-1)) 1 12 from ⟨by decide +kernel, rfl⟩) ?_
  exact J_reti (show Dc Y_X11_years 12 (.ireturn) 1 13 from ⟨by decide +kernel, rfl⟩) rfl (h0 _ _) (by decide) (by decide)

theorem j_X11_years_56 {X : ZX} (N : Nat) (x0 : Nat) (x2 : Int32) (x3 : Nat) (x4 : Int32) (x5 : Int32)   (g : ZS) {K : ((Int32 × Int32 × ZS) ⊕ (Int32 × ZS)) → Prop} (h0 : ∀ v g, K (.inr (v, g)) → xK X (some (.int v)) g) (hL39 : ∀ s, K (.inl s) → zG Y_X11_years X 1 1 39 [some (.ref x0), none, some (.int x2), some (.ref x3), some (.int s.1), some (.int s.2.1)] [] s.2.2) : J Y_X11_years X 1 1 56 [some (.ref x0), none, some (.int x2), some (.ref x3), some (.int x4), some (.int x5)] [] g (f_X11_years_56 N x0 x2 x3 x4 x5 g) K := by
  unfold f_X11_years_56
  refine J_iinc (1 : Int32) [some (.ref x0), none, some (.int x2), some (.ref x3), some (.int x4), some (.int (x5 + (1 : Int32)))] (show Dc Y_X11_years 56 (.iinc 5 1) 3 59 from ⟨by decide +kernel, rfl⟩) rfl rfl (by decide) rfl rfl ?_
  refine J_goto (tg := 39) (show Dc Y_X11_years 59 (.goto (-20)) 3 62 from ⟨by decide +kernel, rfl⟩) (by decide) ?_
  exact J_leaf (fun h => hL39 (x4, x5 + (1 : Int32), g) h)

theorem j_X11_years_39 {X : ZX} (N : Nat) (x0 : Nat) (x2 : Int32) (x3 : Nat) (x4 : Int32) (x5 : Int32)   (g : ZS) {K : ((Int32 × Int32 × ZS) ⊕ (Int32 × ZS)) → Prop} (h0 : ∀ v g, K (.inr (v, g)) → xK X (some (.int v)) g) (hL39 : ∀ s, K (.inl s) → zG Y_X11_years X 1 1 39 [some (.ref x0), none, some (.int x2), some (.ref x3), some (.int s.1), some (.int s.2.1)] [] s.2.2) : J Y_X11_years X 1 1 39 [some (.ref x0), none, some (.int x2), some (.ref x3), some (.int x4), some (.int x5)] [] g (f_X11_years_39 N x0 x2 x3 x4 x5 g) K := by
  unfold f_X11_years_39
  refine J_iload rfl (show Dc Y_X11_years 39 (.iload 5) 2 41 from ⟨by decide +kernel, rfl⟩) ?_
  refine J_iload_n rfl rfl (show Dc Y_X11_years 41 (.iload_n 2) 1 42 from ⟨by decide +kernel, rfl⟩) ?_
  refine J_icmp_ge (tg := 62) (show Dc Y_X11_years 42 (.if_icmp .ge 20) 3 45 from ⟨by decide +kernel, rfl⟩) (by decide) (fun h => ?_) (fun h => ?_)
  · refine J_map (f := Sum.inr) (fun _ h => h) ?_
    refine J_aload_n rfl rfl (show Dc Y_X11_years 62 (.aload_n 0) 1 63 from ⟨by decide +kernel, rfl⟩) ?_
    refine J_getR (show Dc Y_X11_years 63 (.getfield 19) 3 66 from ⟨by decide +kernel, rfl⟩) w_f_RX11_19 rfl (fun v1 => ?_)
    refine J_aload_n rfl rfl (show Dc Y_X11_years 66 (.aload_n 0) 1 67 from ⟨by decide +kernel, rfl⟩) ?_
    refine J_getR (show Dc Y_X11_years 67 (.getfield 51) 3 70 from ⟨by decide +kernel, rfl⟩) w_f_RX11_51 rfl (fun v2 => ?_)
    refine J_callVi (fun r => r) (fun _ => g) (show Dc Y_X11_years 70 (.invokevirtual 452) 3 73 from ⟨by decide +kernel, rfl⟩) w_m_RX11_452 w_in_X6_heard rfl w_se_X6_heard w_cw_X6_heard (c_X6_heard N v2 g) rfl rfl (by decide) (Nat.le_of_ble_eq_true rfl) (by decide) (by decide) (fun v3 => ?_)
    refine J_i2l (show Dc Y_X11_years 73 (.i2l) 1 74 from ⟨by decide +kernel, rfl⟩) ?_
    refine J_aload_n rfl rfl (show Dc Y_X11_years 74 (.aload_n 0) 1 75 from ⟨by decide +kernel, rfl⟩) ?_
    refine J_getR (show Dc Y_X11_years 75 (.getfield 51) 3 78 from ⟨by decide +kernel, rfl⟩) w_f_RX11_51 rfl (fun v4 => ?_)
    refine J_callVi (fun r => r) (fun _ => g) (show Dc Y_X11_years 78 (.invokevirtual 338) 3 81 from ⟨by decide +kernel, rfl⟩) w_m_RX11_338 w_in_X6_known rfl w_se_X6_known w_cw_X6_known (c_X6_known N v4 g) rfl rfl (by decide) (Nat.le_of_ble_eq_true rfl) (by decide) (by decide) (fun v5 => ?_)
    refine J_i2l (show Dc Y_X11_years 81 (.i2l) 1 82 from ⟨by decide +kernel, rfl⟩) ?_
    refine J_callVv (fun r => r) (show Dc Y_X11_years 82 (.invokevirtual 317) 3 85 from ⟨by decide +kernel, rfl⟩) w_m_RX11_317 w_in_X9_pair rfl w_se_X9_pair w_cw_X9_pair (c_X9_pair v1 v3.toInt64 v5.toInt64 g) rfl rfl (by decide) (Nat.le_of_ble_eq_true rfl) (by decide) (by decide) (fun g6 => ?_)
    refine J_iload rfl (show Dc Y_X11_years 85 (.iload 4) 2 87 from ⟨by decide +kernel, rfl⟩) ?_
    exact J_reti (show Dc Y_X11_years 87 (.ireturn) 1 88 from ⟨by decide +kernel, rfl⟩) rfl (h0 _ _) (by decide) (by decide)
  · refine J_aload_n rfl rfl (show Dc Y_X11_years 45 (.aload_n 0) 1 46 from ⟨by decide +kernel, rfl⟩) ?_
    refine J_aload_n rfl rfl (show Dc Y_X11_years 46 (.aload_n 3) 1 47 from ⟨by decide +kernel, rfl⟩) ?_
    refine J_callVi (fun r => r.1) (fun r => r.2) (show Dc Y_X11_years 47 (.invokevirtual 448) 3 50 from ⟨by decide +kernel, rfl⟩) w_m_RX11_448 w_in_X11_drawAct rfl w_se_X11_drawAct w_cw_X11_drawAct (c_X11_drawAct N x0 x3 g) rfl rfl (by decide) (Nat.le_of_ble_eq_true rfl) (by decide) (by decide) (fun r7 => ?_)
    refine J_if_eq (tg := 56) (show Dc Y_X11_years 50 (.ifCond .eq 6) 3 53 from ⟨by decide +kernel, rfl⟩) (by decide) (fun h => ?_) (fun h => ?_)
    · exact j_X11_years_56 N x0 x2 x3 x4 x5 r7.2 h0 hL39
    · refine J_iinc (1 : Int32) [some (.ref x0), none, some (.int x2), some (.ref x3), some (.int (x4 + (1 : Int32))), some (.int x5)] (show Dc Y_X11_years 53 (.iinc 4 1) 3 56 from ⟨by decide +kernel, rfl⟩) rfl rfl (by decide) rfl rfl ?_
      exact j_X11_years_56 N x0 x2 x3 (x4 + (1 : Int32)) x5 r7.2 h0 hL39

theorem j_X11_years {X : ZX} (N : Nat) (x0 : Nat) (x1 : Int32) (x2 : Int32)   (g : ZS) {K : (Int32 × ZS) → Prop} (h0 : ∀ v g, K (v, g) → xK X (some (.int v)) g) : J Y_X11_years X 0 0 0 [some (.ref x0), some (.int x1), some (.int x2), none, none, none] [] g (f_X11_years N x0 x1 x2 g) K := by
  unfold f_X11_years
  refine J_iload_n rfl rfl (show Dc Y_X11_years 0 (.iload_n 2) 1 1 from ⟨by decide +kernel, rfl⟩) ?_
  refine J_iconst (1 : Int32) rfl (show Dc Y_X11_years 1 (.iconst 1) 1 2 from ⟨by decide +kernel, rfl⟩) ?_
  refine J_icmp_lt (tg := 11) (show Dc Y_X11_years 2 (.if_icmp .lt 9) 3 5 from ⟨by decide +kernel, rfl⟩) (by decide) (fun h => ?_) (fun h => ?_)
  · refine J_mask [false, false, false, false, false, false] ?_
    exact j_X11_years_11 N g h0
  · refine J_iload_n rfl rfl (show Dc Y_X11_years 5 (.iload_n 2) 1 6 from ⟨by decide +kernel, rfl⟩) ?_
    refine J_bipush (60 : Int32) rfl (show Dc Y_X11_years 6 (.bipush 60) 2 8 from ⟨by decide +kernel, rfl⟩) ?_
    refine J_icmp_le (tg := 13) (show Dc Y_X11_years 8 (.if_icmp .le 5) 3 11 from ⟨by decide +kernel, rfl⟩) (by decide) (fun h => ?_) (fun h => ?_)
    · refine J_aload_n rfl rfl (show Dc Y_X11_years 13 (.aload_n 0) 1 14 from ⟨by decide +kernel, rfl⟩) ?_
      refine J_getR (show Dc Y_X11_years 14 (.getfield 51) 3 17 from ⟨by decide +kernel, rfl⟩) w_f_RX11_51 rfl (fun v1 => ?_)
      refine J_aload_n rfl rfl (show Dc Y_X11_years 17 (.aload_n 0) 1 18 from ⟨by decide +kernel, rfl⟩) ?_
      refine J_getR (show Dc Y_X11_years 18 (.getfield 47) 3 21 from ⟨by decide +kernel, rfl⟩) w_f_RX11_47 rfl (fun v2 => ?_)
      refine J_callVv (fun r => r) (show Dc Y_X11_years 21 (.invokevirtual 244) 3 24 from ⟨by decide +kernel, rfl⟩) w_m_RX11_244 w_in_X6_copyFrom rfl w_se_X6_copyFrom w_cw_X6_copyFrom (c_X6_copyFrom N v1 v2 g) rfl rfl (by decide) (Nat.le_of_ble_eq_true rfl) (by decide) (by decide) (fun g3 => ?_)
      refine J_new (show Dc Y_X11_years 24 (.new 444) 3 27 from ⟨by decide +kernel, rfl⟩) w_n_RX11_444 (by decide) (by decide) (fun p4 => ?_)
      refine J_dup rfl (show Dc Y_X11_years 27 (.dup) 1 28 from ⟨by decide +kernel, rfl⟩) ?_
      refine J_iload_n rfl rfl (show Dc Y_X11_years 28 (.iload_n 1) 1 29 from ⟨by decide +kernel, rfl⟩) ?_
      refine J_callI (so := fun r => r) (show Dc Y_X11_years 29 (.invokespecial 446) 3 32 from ⟨by decide +kernel, rfl⟩) w_m_RX11_446 w_in_X1_init rfl rfl w_cw_X1_init (c_X1_init p4.1 x1 p4.2) rfl rfl (by decide) (Nat.le_of_ble_eq_true rfl) (by decide) (by decide) (fun g5 _ => ?_)
      refine J_astore_n [some (.ref x0), some (.int x1), some (.int x2), some (.ref p4.1), none, none] (show Dc Y_X11_years 32 (.astore_n 3) 1 33 from ⟨by decide +kernel, rfl⟩) rfl (by decide) rfl rfl ?_
      refine J_iconst (0 : Int32) rfl (show Dc Y_X11_years 33 (.iconst 0) 1 34 from ⟨by decide +kernel, rfl⟩) ?_
      refine J_istore [some (.ref x0), some (.int x1), some (.int x2), some (.ref p4.1), some (.int (0 : Int32)), none] (show Dc Y_X11_years 34 (.istore 4) 2 36 from ⟨by decide +kernel, rfl⟩) (by decide) rfl rfl ?_
      refine J_iconst (0 : Int32) rfl (show Dc Y_X11_years 36 (.iconst 0) 1 37 from ⟨by decide +kernel, rfl⟩) ?_
      refine J_istore [some (.ref x0), some (.int x1), some (.int x2), some (.ref p4.1), some (.int (0 : Int32)), some (.int (0 : Int32))] (show Dc Y_X11_years 37 (.istore 5) 2 39 from ⟨by decide +kernel, rfl⟩) (by decide) rfl rfl ?_
      refine J_mask [true, false, true, true, true, true] ?_
      exact J_loop (X := X) (K := K) (uc := fun _ => 1) (us := fun _ => 1) (lf := fun s => [some (.ref x0), none, some (.int x2), some (.ref p4.1), some (.int s.1), some (.int s.2.1)]) (gf := fun s => s.2.2) (fun s => j_X11_years_39 (K := zKl Y_X11_years X 39 (fun _ => 1) (fun _ => 1) (fun s => [some (.ref x0), none, some (.int x2), some (.ref p4.1), some (.int s.1), some (.int s.2.1)]) (fun s => s.2.2) K) N x0 x2 p4.1 s.1 s.2.1 s.2.2 h0 (fun s h => h)) N ((0 : Int32), (0 : Int32), g5)
    · refine J_mask [false, false, false, false, false, false] ?_
      exact j_X11_years_11 N g h0

theorem c_X11_years {l : Launch} {D : ZD} {B0 : Nat} (N : Nat) (x0 : Nat) (x1 : Int32) (x2 : Int32) (g : ZS) : ∀ r, f_X11_years N x0 x1 x2 g = some r → zCt l D B0 yX11_years Y_X11_years [.ref x0, .int x1, .int x2] g (some (.int r.1)) r.2 :=
  zCt_ofF (vo := fun r => some (.int r.1)) (so := fun r => r.2) (by decide +kernel) rfl (fun h => by cases h) rfl (Nat.le_of_ble_eq_true rfl) (fun X => j_X11_years N x0 x1 x2 g (fun _ _ h => h))

theorem j_X11_keep_9 {X : ZX} (N : Nat)    (g : ZS) {K : (Int32 × ZS) → Prop} (h0 : ∀ v g, K (v, g) → xK X (some (.int v)) g) : J Y_X11_keep X 0 0 9 [none, none] [] g (f_X11_keep_9 N g) K := by
  unfold f_X11_keep_9
  refine J_iconst (0 : Int32) rfl (show Dc Y_X11_keep 9 (.iconst 0) 1 10 from ⟨by decide +kernel, rfl⟩) ?_
  exact J_retz rfl (show Dc Y_X11_keep 10 (.ireturn) 1 11 from ⟨by decide +kernel, rfl⟩) rfl (h0 _ _) (by decide) (by decide)

theorem j_X11_keep {X : ZX} (N : Nat) (x0 : Nat) (x1 : Int32)   (g : ZS) {K : (Int32 × ZS) → Prop} (h0 : ∀ v g, K (v, g) → xK X (some (.int v)) g) : J Y_X11_keep X 0 0 0 [some (.ref x0), some (.int x1)] [] g (f_X11_keep N x0 x1 g) K := by
  unfold f_X11_keep
  refine J_iload_n rfl rfl (show Dc Y_X11_keep 0 (.iload_n 1) 1 1 from ⟨by decide +kernel, rfl⟩) ?_
  refine J_if_lt (tg := 9) (show Dc Y_X11_keep 1 (.ifCond .lt 8) 3 4 from ⟨by decide +kernel, rfl⟩) (by decide) (fun h => ?_) (fun h => ?_)
  · refine J_mask [false, false] ?_
    exact j_X11_keep_9 N g h0
  · refine J_iload_n rfl rfl (show Dc Y_X11_keep 4 (.iload_n 1) 1 5 from ⟨by decide +kernel, rfl⟩) ?_
    refine J_iconst (2 : Int32) rfl (show Dc Y_X11_keep 5 (.iconst 2) 1 6 from ⟨by decide +kernel, rfl⟩) ?_
    refine J_icmp_lt (tg := 11) (show Dc Y_X11_keep 6 (.if_icmp .lt 5) 3 9 from ⟨by decide +kernel, rfl⟩) (by decide) (fun h => ?_) (fun h => ?_)
    · refine J_aload_n rfl rfl (show Dc Y_X11_keep 11 (.aload_n 0) 1 12 from ⟨by decide +kernel, rfl⟩) ?_
      refine J_getR (show Dc Y_X11_keep 12 (.getfield 61) 3 15 from ⟨by decide +kernel, rfl⟩) w_f_RX11_61 rfl (fun v1 => ?_)
      refine J_iload_n rfl rfl (show Dc Y_X11_keep 15 (.iload_n 1) 1 16 from ⟨by decide +kernel, rfl⟩) ?_
      refine J_aald (kd := 26) (by decide) (by decide) (show Dc Y_X11_keep 16 (.aaload) 1 17 from ⟨by decide +kernel, rfl⟩) (fun v2 => ?_)
      refine J_aload_n rfl rfl (show Dc Y_X11_keep 17 (.aload_n 0) 1 18 from ⟨by decide +kernel, rfl⟩) ?_
      refine J_getR (show Dc Y_X11_keep 18 (.getfield 47) 3 21 from ⟨by decide +kernel, rfl⟩) w_f_RX11_47 rfl (fun v3 => ?_)
      refine J_callVv (fun r => r) (show Dc Y_X11_keep 21 (.invokevirtual 244) 3 24 from ⟨by decide +kernel, rfl⟩) w_m_RX11_244 w_in_X6_copyFrom rfl w_se_X6_copyFrom w_cw_X6_copyFrom (c_X6_copyFrom N v2 v3 g) rfl rfl (by decide) (Nat.le_of_ble_eq_true rfl) (by decide) (by decide) (fun g4 => ?_)
      refine J_aload_n rfl rfl (show Dc Y_X11_keep 24 (.aload_n 0) 1 25 from ⟨by decide +kernel, rfl⟩) ?_
      refine J_getR (show Dc Y_X11_keep 25 (.getfield 65) 3 28 from ⟨by decide +kernel, rfl⟩) w_f_RX11_65 rfl (fun v5 => ?_)
      refine J_iload_n rfl rfl (show Dc Y_X11_keep 28 (.iload_n 1) 1 29 from ⟨by decide +kernel, rfl⟩) ?_
      refine J_iconst (1 : Int32) rfl (show Dc Y_X11_keep 29 (.iconst 1) 1 30 from ⟨by decide +kernel, rfl⟩) ?_
      refine J_zast (show Dc Y_X11_keep 30 (.bastore) 1 31 from ⟨by decide +kernel, rfl⟩) (fun g6 => ?_)
      refine J_iconst (1 : Int32) rfl (show Dc Y_X11_keep 31 (.iconst 1) 1 32 from ⟨by decide +kernel, rfl⟩) ?_
      exact J_retz rfl (show Dc Y_X11_keep 32 (.ireturn) 1 33 from ⟨by decide +kernel, rfl⟩) rfl (h0 _ _) (by decide) (by decide)
    · refine J_mask [false, false] ?_
      exact j_X11_keep_9 N g h0

theorem c_X11_keep {l : Launch} {D : ZD} {B0 : Nat} (N : Nat) (x0 : Nat) (x1 : Int32) (g : ZS) : ∀ r, f_X11_keep N x0 x1 g = some r → zCt l D B0 yX11_keep Y_X11_keep [.ref x0, .int x1] g (some (.int r.1)) r.2 :=
  zCt_ofF (vo := fun r => some (.int r.1)) (so := fun r => r.2) (by decide +kernel) rfl (fun h => by cases h) rfl (Nat.le_of_ble_eq_true rfl) (fun X => j_X11_keep N x0 x1 g (fun _ _ h => h))

theorem j_X11_again_37 {X : ZX} (N : Nat)    (g : ZS) {K : (Int32 × ZS) → Prop} (h0 : ∀ v g, K (v, g) → xK X (some (.int v)) g) : J Y_X11_again X 0 0 37 [none, none] [] g (f_X11_again_37 N g) K := by
  unfold f_X11_again_37
  refine J_iconst (0 : Int32) rfl (show Dc Y_X11_again 37 (.iconst 0) 1 38 from ⟨by decide +kernel, rfl⟩) ?_
  exact J_retz rfl (show Dc Y_X11_again 38 (.ireturn) 1 39 from ⟨by decide +kernel, rfl⟩) rfl (h0 _ _) (by decide) (by decide)

theorem j_X11_again {X : ZX} (N : Nat) (x0 : Nat) (x1 : Int32)   (g : ZS) {K : (Int32 × ZS) → Prop} (h0 : ∀ v g, K (v, g) → xK X (some (.int v)) g) : J Y_X11_again X 0 0 0 [some (.ref x0), some (.int x1)] [] g (f_X11_again N x0 x1 g) K := by
  unfold f_X11_again
  refine J_iload_n rfl rfl (show Dc Y_X11_again 0 (.iload_n 1) 1 1 from ⟨by decide +kernel, rfl⟩) ?_
  refine J_if_lt (tg := 37) (show Dc Y_X11_again 1 (.ifCond .lt 36) 3 4 from ⟨by decide +kernel, rfl⟩) (by decide) (fun h => ?_) (fun h => ?_)
  · refine J_mask [false, false] ?_
    exact j_X11_again_37 N g h0
  · refine J_iload_n rfl rfl (show Dc Y_X11_again 4 (.iload_n 1) 1 5 from ⟨by decide +kernel, rfl⟩) ?_
    refine J_iconst (2 : Int32) rfl (show Dc Y_X11_again 5 (.iconst 2) 1 6 from ⟨by decide +kernel, rfl⟩) ?_
    refine J_icmp_ge (tg := 37) (show Dc Y_X11_again 6 (.if_icmp .ge 31) 3 9 from ⟨by decide +kernel, rfl⟩) (by decide) (fun h => ?_) (fun h => ?_)
    · refine J_mask [false, false] ?_
      exact j_X11_again_37 N g h0
    · refine J_aload_n rfl rfl (show Dc Y_X11_again 9 (.aload_n 0) 1 10 from ⟨by decide +kernel, rfl⟩) ?_
      refine J_getR (show Dc Y_X11_again 10 (.getfield 65) 3 13 from ⟨by decide +kernel, rfl⟩) w_f_RX11_65 rfl (fun v1 => ?_)
      refine J_iload_n rfl rfl (show Dc Y_X11_again 13 (.iload_n 1) 1 14 from ⟨by decide +kernel, rfl⟩) ?_
      refine J_zald (show Dc Y_X11_again 14 (.baload) 1 15 from ⟨by decide +kernel, rfl⟩) (fun v2 => ?_)
      refine J_if_eq (tg := 37) (show Dc Y_X11_again 15 (.ifCond .eq 22) 3 18 from ⟨by decide +kernel, rfl⟩) (by decide) (fun h => ?_) (fun h => ?_)
      · refine J_mask [false, false] ?_
        exact j_X11_again_37 N g h0
      · refine J_aload_n rfl rfl (show Dc Y_X11_again 18 (.aload_n 0) 1 19 from ⟨by decide +kernel, rfl⟩) ?_
        refine J_getR (show Dc Y_X11_again 19 (.getfield 61) 3 22 from ⟨by decide +kernel, rfl⟩) w_f_RX11_61 rfl (fun v3 => ?_)
        refine J_iload_n rfl rfl (show Dc Y_X11_again 22 (.iload_n 1) 1 23 from ⟨by decide +kernel, rfl⟩) ?_
        refine J_aald (kd := 26) (by decide) (by decide) (show Dc Y_X11_again 23 (.aaload) 1 24 from ⟨by decide +kernel, rfl⟩) (fun v4 => ?_)
        refine J_getI (show Dc Y_X11_again 24 (.getfield 146) 3 27 from ⟨by decide +kernel, rfl⟩) w_f_RX11_146 rfl (fun v5 => ?_)
        refine J_aload_n rfl rfl (show Dc Y_X11_again 27 (.aload_n 0) 1 28 from ⟨by decide +kernel, rfl⟩) ?_
        refine J_getR (show Dc Y_X11_again 28 (.getfield 47) 3 31 from ⟨by decide +kernel, rfl⟩) w_f_RX11_47 rfl (fun v6 => ?_)
        refine J_getI (show Dc Y_X11_again 31 (.getfield 146) 3 34 from ⟨by decide +kernel, rfl⟩) w_f_RX11_146 rfl (fun v7 => ?_)
        refine J_icmp_eq (tg := 39) (show Dc Y_X11_again 34 (.if_icmp .eq 5) 3 37 from ⟨by decide +kernel, rfl⟩) (by decide) (fun h => ?_) (fun h => ?_)
        · refine J_aload_n rfl rfl (show Dc Y_X11_again 39 (.aload_n 0) 1 40 from ⟨by decide +kernel, rfl⟩) ?_
          refine J_getR (show Dc Y_X11_again 40 (.getfield 47) 3 43 from ⟨by decide +kernel, rfl⟩) w_f_RX11_47 rfl (fun v8 => ?_)
          refine J_aload_n rfl rfl (show Dc Y_X11_again 43 (.aload_n 0) 1 44 from ⟨by decide +kernel, rfl⟩) ?_
          refine J_getR (show Dc Y_X11_again 44 (.getfield 61) 3 47 from ⟨by decide +kernel, rfl⟩) w_f_RX11_61 rfl (fun v9 => ?_)
          refine J_iload_n rfl rfl (show Dc Y_X11_again 47 (.iload_n 1) 1 48 from ⟨by decide +kernel, rfl⟩) ?_
          refine J_aald (kd := 26) (by decide) (by decide) (show Dc Y_X11_again 48 (.aaload) 1 49 from ⟨by decide +kernel, rfl⟩) (fun v10 => ?_)
          refine J_callVv (fun r => r) (show Dc Y_X11_again 49 (.invokevirtual 244) 3 52 from ⟨by decide +kernel, rfl⟩) w_m_RX11_244 w_in_X6_copyFrom rfl w_se_X6_copyFrom w_cw_X6_copyFrom (c_X6_copyFrom N v8 v10 g) rfl rfl (by decide) (Nat.le_of_ble_eq_true rfl) (by decide) (by decide) (fun g11 => ?_)
          refine J_aload_n rfl rfl (show Dc Y_X11_again 52 (.aload_n 0) 1 53 from ⟨by decide +kernel, rfl⟩) ?_
          refine J_getR (show Dc Y_X11_again 53 (.getfield 57) 3 56 from ⟨by decide +kernel, rfl⟩) w_f_RX11_57 rfl (fun v12 => ?_)
          refine J_iconst (0 : Int32) rfl (show Dc Y_X11_again 56 (.iconst 0) 1 57 from ⟨by decide +kernel, rfl⟩) ?_
          refine J_putI (show Dc Y_X11_again 57 (.putfield 142) 3 60 from ⟨by decide +kernel, rfl⟩) w_f_RX11_142 rfl rfl (fun g13 => ?_) (fun h => by cases h)
          refine J_iconst (1 : Int32) rfl (show Dc Y_X11_again 60 (.iconst 1) 1 61 from ⟨by decide +kernel, rfl⟩) ?_
          exact J_retz rfl (show Dc Y_X11_again 61 (.ireturn) 1 62 from ⟨by decide +kernel, rfl⟩) rfl (h0 _ _) (by decide) (by decide)
        · refine J_mask [false, false] ?_
          exact j_X11_again_37 N g h0

theorem c_X11_again {l : Launch} {D : ZD} {B0 : Nat} (N : Nat) (x0 : Nat) (x1 : Int32) (g : ZS) : ∀ r, f_X11_again N x0 x1 g = some r → zCt l D B0 yX11_again Y_X11_again [.ref x0, .int x1] g (some (.int r.1)) r.2 :=
  zCt_ofF (vo := fun r => some (.int r.1)) (so := fun r => r.2) (by decide +kernel) rfl (fun h => by cases h) rfl (Nat.le_of_ble_eq_true rfl) (fun X => j_X11_again N x0 x1 g (fun _ _ h => h))
