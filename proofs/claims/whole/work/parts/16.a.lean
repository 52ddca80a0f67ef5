def f_X12_readRule_24 (N : Nat) (x0 : Nat)  (g : ZS) : Option (Int32 × ZS) :=
  zvs g x0 12 <| (f_X12_wasRight x0 g).bind fun r1 =>
  if vp_nar .boolean r1.1 = r1.1 then some (r1.1, r1.2) else none

def f_X12_readRule (N : Nat) (x0 : Nat)  (g : ZS) : Option (Int32 × ZS) :=
  zvs g x0 12 <| (f_X12_beginText x0 (40 : Int32) g).bind fun g1 =>
  (zwrZ g1 x0 12 20 (0 : Int32)).bind fun g2 =>
  (zrdI g2 x0 12 12).bind fun v3 =>
  if v3 ≤ 0 then
    f_X12_readRule_24 N x0 g2
  else
    zvs g2 x0 12 <| (t_X12_held N x0 (0 : Int32) g2).bind fun r4 =>
    f_X12_readRule_24 N x0 r4.2

def f_X12_rule_26 (N : Nat) (x0 : Nat) (x1 : Int32) (x2 : Int32)  (g : ZS) : Option ((Int32 × ZS) ⊕ (Int32 × ZS)) :=
  if x1 ≤ x2 then
    (
      (zwrI g x0 12 19 x1).bind fun g1 =>
      some ((0 : Int32), g1)).map Sum.inr
  else
    (zrdR g x0 12 17).bind fun v2 =>
    (zrdR g x0 12 6).bind fun v3 =>
    (zald 21 g v3 x2).bind fun v4 =>
    (zast 21 g v2 x2 v4).bind fun g5 =>
    some (.inl (x2 + (1 : Int32), g5))

def f_X12_rule (N : Nat) (x0 : Nat)  (g : ZS) : Option (Int32 × ZS) :=
  (zwrI g x0 12 10 (0 : Int32)).bind fun g1 =>
  (zrdI g1 x0 12 7).bind fun v2 =>
  zvs g1 x0 12 <| (f_X12_readRule N x0 g1).bind fun r3 =>
  if r3.1 = 0 then
    (zrdI r3.2 x0 12 15).bind fun v4 =>
    some ((-1 : Int32) - v4, r3.2)
  else
    zloop (fun s => f_X12_rule_26 N x0 v2 s.1 s.2) N ((0 : Int32), r3.2)

def f_X12_fondness (N : Nat) (x0 : Nat) (x1 : Nat) (x2 : Int32) (x3 : Int32)  (g : ZS) : Option (Int32 × ZS) :=
  (f_X12_of x2 ((4 : Int32) + x3)).bind fun v1 =>
  (zald 20 g x1 v1).bind fun v2 =>
  (f_X12_of x2 ((12 : Int32) + x3)).bind fun v3 =>
  (zald 20 g x1 v3).bind fun v4 =>
  (f_X12_of x2 ((28 : Int32) + x3)).bind fun v5 =>
  (zald 20 g x1 v5).bind fun v6 =>
  (zrdI g x0 12 19).bind fun v7 =>
  if v7 = 0 then
    some (((v2 * (3 : Int32)) - v4) + (v6 * (5 : Int32)), g)
  else
    (zrdR g x0 12 21).bind fun v8 =>
    (zast 20 g v8 (0 : Int32) v2).bind fun g9 =>
    (zrdR g9 x0 12 21).bind fun v10 =>
    (zast 20 g9 v10 (1 : Int32) v4).bind fun g11 =>
    (zrdR g11 x0 12 21).bind fun v12 =>
    (f_X12_of x2 ((20 : Int32) + x3)).bind fun v13 =>
    (zald 20 g11 x1 v13).bind fun v14 =>
    (zast 20 g11 v12 (2 : Int32) v14).bind fun g15 =>
    (zrdR g15 x0 12 21).bind fun v16 =>
    (zast 20 g15 v16 (3 : Int32) v6).bind fun g17 =>
    (zrdR g17 x0 12 21).bind fun v18 =>
    (zast 20 g17 v18 (4 : Int32) x3).bind fun g19 =>
    (zrdR g19 x0 12 21).bind fun v20 =>
    (f_X12_of x2 (2 : Int32)).bind fun v21 =>
    (zald 20 g19 x1 v21).bind fun v22 =>
    (zast 20 g19 v20 (5 : Int32) v22).bind fun g23 =>
    (zrdR g23 x0 12 21).bind fun v24 =>
    (zrdR g23 x0 12 3).bind fun v25 =>
    (zald 20 g23 v25 x3).bind fun v26 =>
    (zast 20 g23 v24 (6 : Int32) v26).bind fun g27 =>
    (zrdR g27 x0 12 17).bind fun v28 =>
    (zrdI g27 x0 12 19).bind fun v29 =>
    zvs g27 x0 12 <| (f_X12_begin x0 v28 v29 (40 : Int32) g27).bind fun g30 =>
    (zwrZ g30 x0 12 20 (1 : Int32)).bind fun g31 =>
    zvs g31 x0 12 <| (t_X12_held N x0 (0 : Int32) g31).bind fun r32 =>
    (zwrZ r32.2 x0 12 20 (0 : Int32)).bind fun g33 =>
    some (r32.1, g33)

def f_X12_word_29 (N : Nat) (x0 : Nat)  (g : ZS) : Option (Int32 × ZS) :=
  zvs g x0 12 <| (f_X12_lost x0 g).bind fun r1 =>
  some (r1.1, r1.2)

def f_X12_word_111 (N : Nat)  (s0 : Int32) (g : ZS) : Option (Int32 × ZS) :=
  some (s0, g)

def f_X12_word_134 (N : Nat)  (s0 : Int32) (g : ZS) : Option (Int32 × ZS) :=
  some (s0, g)

def f_X12_word_168 (N : Nat)  (s0 : Int32) (g : ZS) : Option (Int32 × ZS) :=
  some (s0, g)

def f_X12_word (N : Nat) (x0 : Nat) (x1 : Int32) (x2 : Int32) (x3 : Int32)  (g : ZS) : Option (Int32 × ZS) :=
  (zwrI g x0 12 10 (0 : Int32)).bind fun g1 =>
  zvs g1 x0 12 <| (f_X12_isParrot x0 x1 g1).bind fun v2 =>
  if v2 = 0 then
    f_X12_word_29 N x0 g1
  else
    (f_X12_isWord x2).bind fun v3 =>
    if v3 = 0 then
      f_X12_word_29 N x0 g1
    else
      (f_X12_in x3 (0 : Int32) (4 : Int32)).bind fun v4 =>
      if v4 = 0 then
        f_X12_word_29 N x0 g1
      else
        (zrdR g1 x0 12 0).bind fun v5 =>
        (f_X12_hasHeard v5 x1 x2 g1).bind fun v6 =>
        zcase x3 [
          ((0 : Int32),
            (zrdR g1 x0 12 0).bind fun v7 =>
            (f_X12_of x1 ((4 : Int32) + x2)).bind fun v8 =>
            (zald 20 g1 v7 v8).bind fun v9 =>
            some (v9, g1)),
          ((1 : Int32),
            if v6 = 0 then
              f_X12_word_111 N (-1 : Int32) g1
            else
              (zrdR g1 x0 12 0).bind fun v10 =>
              (f_X12_of x1 ((12 : Int32) + x2)).bind fun v11 =>
              (zald 20 g1 v10 v11).bind fun v12 =>
              f_X12_word_111 N v12 g1),
          ((2 : Int32),
            if v6 = 0 then
              f_X12_word_134 N (-1 : Int32) g1
            else
              (zrdR g1 x0 12 0).bind fun v13 =>
              (f_X12_of x1 ((20 : Int32) + x2)).bind fun v14 =>
              (zald 20 g1 v13 v14).bind fun v15 =>
              f_X12_word_134 N v15 g1),
          ((3 : Int32),
            (zrdR g1 x0 12 0).bind fun v16 =>
            (f_X12_of x1 ((28 : Int32) + x2)).bind fun v17 =>
            (zald 20 g1 v16 v17).bind fun v18 =>
            some (v18, g1))] (
          if v6 = 0 then
            f_X12_word_168 N (0 : Int32) g1
          else
            (zrdR g1 x0 12 0).bind fun v19 =>
            zvs g1 x0 12 <| (f_X12_fondness N x0 v19 x1 x2 g1).bind fun r20 =>
            f_X12_word_168 N r20.1 r20.2)

def f_X12_laySays_96 (N : Nat) (x0 : Nat) (x1 : Nat) (x2 : Int32) (x3 : Nat) (x4 : Int32) (x5 : Int32)  (g : ZS) : Option ((Int32 × Int32 × ZS) ⊕ (Int32 × ZS)) :=
  some (.inl (x4, x5 + (1 : Int32), g))

def f_X12_laySays_87 (N : Nat) (x0 : Nat) (x1 : Nat) (x2 : Int32) (x3 : Nat) (x4 : Int32) (x5 : Int32) (x6 : Int32)  (g : ZS) : Option ((Int32 × Int32 × ZS) ⊕ (Int32 × ZS)) :=
  (zast 20 g x3 x6 x5).bind fun g1 =>
  f_X12_laySays_96 N x0 x1 x2 x3 (x4 + (1 : Int32)) x5 g1

def f_X12_laySays_45 (N : Nat) (x0 : Nat) (x1 : Nat) (x2 : Int32) (x3 : Nat) (x4 : Int32) (x5 : Int32) (x6 : Int32)  (g : ZS) : Option ((Int32 × ZS) ⊕ ((Int32 × Int32 × ZS) ⊕ (Int32 × ZS))) :=
  if x6 ≤ 0 then
    (
    f_X12_laySays_87 N x0 x1 x2 x3 x4 x5 x6 g).map Sum.inr
  else
    (zrdR g x0 12 24).bind fun v1 =>
    (zald 20 g v1 x5).bind fun v2 =>
    (zrdR g x0 12 24).bind fun v3 =>
    (zald 20 g x3 (x6 - (1 : Int32))).bind fun v4 =>
    (zald 20 g v3 v4).bind fun v5 =>
    if v2 ≤ v5 then
      (
      f_X12_laySays_87 N x0 x1 x2 x3 x4 x5 x6 g).map Sum.inr
    else
      (zald 20 g x3 (x6 - (1 : Int32))).bind fun v6 =>
      (zast 20 g x3 x6 v6).bind fun g7 =>
      some (.inl (x6 + (-1 : Int32), g7))

def f_X12_laySays_6 (N : Nat) (x0 : Nat) (x1 : Nat) (x2 : Int32) (x3 : Nat) (x4 : Int32) (x5 : Int32)  (g : ZS) : Option ((Int32 × Int32 × ZS) ⊕ (Int32 × ZS)) :=
  if (8 : Int32) ≤ x5 then
    (
      (zrdR g x0 12 2).bind fun v1 =>
      (zald 20 g v1 x2).bind fun v2 =>
      (f_J9_min_7cf53 x4 v2).bind fun v3 =>
      some (v3, g)).map Sum.inr
  else
    (f_X12_hasHeard x1 x2 x5 g).bind fun v4 =>
    if v4 = 0 then
      f_X12_laySays_96 N x0 x1 x2 x3 x4 x5 g
    else
      (zrdR g x0 12 24).bind fun v5 =>
      zvs g x0 12 <| (f_X12_fondness N x0 x1 x2 x5 g).bind fun r6 =>
      (zast 20 r6.2 v5 x5 r6.1).bind fun g7 =>
      zloop (fun s => f_X12_laySays_45 N x0 x1 x2 x3 x4 x5 s.1 s.2) N (x4, g7)

def f_X12_laySays (N : Nat) (x0 : Nat) (x1 : Nat) (x2 : Int32) (x3 : Nat)  (g : ZS) : Option (Int32 × ZS) :=
  zloop (fun s => f_X12_laySays_6 N x0 x1 x2 x3 s.1 s.2.1 s.2.2) N ((0 : Int32), (0 : Int32), g)

def f_X12_refusesSpeak_50 (N : Nat)  (s0 : Int32) (g : ZS) : Option (Int32 × ZS) :=
  some (s0, g)

def f_X12_refusesSpeak (N : Nat) (x0 : Nat) (x1 : Nat) (x2 : Int32)  (g : ZS) : Option (Int32 × ZS) :=
  zvs g x0 12 <| (f_X12_isParrot x0 x2 g).bind fun v1 =>
  if v1 = 0 then
    some ((-1 : Int32), g)
  else
    (f_X12_of x2 (1 : Int32)).bind fun v2 =>
    (zald 20 g x1 v2).bind fun v3 =>
    if v3 = (1 : Int32) then
      some ((-2 : Int32), g)
    else
      (f_X12_of x2 (3 : Int32)).bind fun v4 =>
      (zald 20 g x1 v4).bind fun v5 =>
      (zrdR g x0 12 22).bind fun v6 =>
      zvs g x0 12 <| (f_X12_laySays N x0 x1 x2 v6 g).bind fun r7 =>
      if v5 < r7.1 then
        f_X12_refusesSpeak_50 N (0 : Int32) r7.2
      else
        f_X12_refusesSpeak_50 N (-3 : Int32) r7.2

def f_X12_goSpeak_89 (N : Nat) (x0 : Nat) (x1 : Nat) (x2 : Int32) (x3 : Int32) (x4 : Int32)  (g : ZS) : Option ((Int32 × ZS) ⊕ (Int32 × ZS)) :=
  some (.inl (x4 + (1 : Int32), g))

def f_X12_goSpeak_38 (N : Nat) (x0 : Nat) (x1 : Nat) (x2 : Int32) (x3 : Int32) (x4 : Int32)  (g : ZS) : Option ((Int32 × ZS) ⊕ (Int32 × ZS)) :=
  (zrdI g x0 12 1).bind fun v1 =>
  if v1 ≤ x4 then
    (
      some (x3, g)).map Sum.inr
  else
    if x4 = x2 then
      f_X12_goSpeak_89 N x0 x1 x2 x3 x4 g
    else
      (f_X12_of x4 (1 : Int32)).bind fun v2 =>
      (zald 20 g x1 v2).bind fun v3 =>
      if v3 = 0 then
        (f_X12_of x4 (0 : Int32)).bind fun v4 =>
        (zald 20 g x1 v4).bind fun v5 =>
        (f_X12_of x2 (0 : Int32)).bind fun v6 =>
        (zald 20 g x1 v6).bind fun v7 =>
        if v5 = v7 then
          (f_X12_hears x1 x4 x3 g).bind fun g8 =>
          f_X12_goSpeak_89 N x0 x1 x2 x3 x4 g8
        else
          f_X12_goSpeak_89 N x0 x1 x2 x3 x4 g
      else
        f_X12_goSpeak_89 N x0 x1 x2 x3 x4 g

def f_X12_goSpeak (N : Nat) (x0 : Nat) (x1 : Nat) (x2 : Int32)  (g : ZS) : Option (Int32 × ZS) :=
  (zrdR g x0 12 22).bind fun v1 =>
  zvs g x0 12 <| (f_X12_laySays N x0 x1 x2 v1 g).bind fun r2 =>
  (zrdR r2.2 x0 12 22).bind fun v3 =>
  (f_X12_of x2 (3 : Int32)).bind fun v4 =>
  (zald 20 r2.2 x1 v4).bind fun v5 =>
  (zald 20 r2.2 v3 v5).bind fun v6 =>
  (f_X12_of x2 (3 : Int32)).bind fun v7 =>
  (zald 20 r2.2 x1 v7).bind fun v8 =>
  (zast 20 r2.2 x1 v7 (v8 + (1 : Int32))).bind fun g9 =>
  zloop (fun s => f_X12_goSpeak_38 N x0 x1 x2 v6 s.1 s.2) N ((0 : Int32), g9)

def f_X12_speak (N : Nat) (x0 : Nat) (x1 : Int32)  (g : ZS) : Option (Int32 × ZS) :=
  (zwrI g x0 12 10 (0 : Int32)).bind fun g1 =>
  (zrdR g1 x0 12 0).bind fun v2 =>
  zvs g1 x0 12 <| (f_X12_refusesSpeak N x0 v2 x1 g1).bind fun r3 =>
  if 0 ≤ r3.1 then
    (zrdR r3.2 x0 12 0).bind fun v4 =>
    zvs r3.2 x0 12 <| (f_X12_remember N x0 v4 r3.2).bind fun g5 =>
    (zrdR g5 x0 12 0).bind fun v6 =>
    zvs g5 x0 12 <| (f_X12_goSpeak N x0 v6 x1 g5).bind fun r7 =>
    some (r7.1, r7.2)
  else
    some (r3.1, r3.2)

def f_X12_act (N : Nat) (x0 : Nat) (x1 : Int32) (x2 : Int32) (x3 : Int32)  (g : ZS) : Option (Int32 × ZS) :=
  zcase x1 [
    ((100 : Int32),
      (zrdR g x0 12 0).bind fun v1 =>
      zvs g x0 12 <| (f_X12_goDays N x0 v1 x2 g).bind fun g2 =>
      some ((1 : Int32), g2)),
    ((107 : Int32),
      zvs g x0 12 <| (f_X12_isParrot x0 x2 g).bind fun v3 =>
      if v3 = 0 then
        some ((0 : Int32), g)
      else
        (zrdR g x0 12 0).bind fun v4 =>
        (f_X12_of x2 (1 : Int32)).bind fun v5 =>
        (zrdR g x0 12 0).bind fun v6 =>
        (f_X12_of x2 (1 : Int32)).bind fun v7 =>
        (zald 20 g v6 v7).bind fun v8 =>
        (zast 20 g v4 v5 ((1 : Int32) - v8)).bind fun g9 =>
        some ((1 : Int32), g9)),
    ((109 : Int32),
      zvs g x0 12 <| (f_X12_refusesMove x0 x2 x3 g).bind fun v10 =>
      if 0 ≤ v10 then
        (zrdR g x0 12 0).bind fun v11 =>
        (f_X12_of x2 (0 : Int32)).bind fun v12 =>
        (zast 20 g v11 v12 x3).bind fun g13 =>
        some ((1 : Int32), g13)
      else
        some ((0 : Int32), g)),
    ((115 : Int32),
      (zrdR g x0 12 0).bind fun v14 =>
      zvs g x0 12 <| (f_X12_refusesSpeak N x0 v14 x2 g).bind fun r15 =>
      if 0 ≤ r15.1 then
        (zrdR r15.2 x0 12 0).bind fun v16 =>
        zvs r15.2 x0 12 <| (f_X12_goSpeak N x0 v16 x2 r15.2).bind fun r17 =>
        some ((1 : Int32), r17.2)
      else
        some ((0 : Int32), r15.2)),
    ((116 : Int32),
      (zrdR g x0 12 0).bind fun v18 =>
      zvs g x0 12 <| (f_X12_refusesTeach x0 v18 x2 x3 g).bind fun v19 =>
      if 0 ≤ v19 then
        (zrdR g x0 12 0).bind fun v20 =>
        (f_X12_goTeach v20 x2 x3 (1 : Int32) g).bind fun g21 =>
        some ((1 : Int32), g21)
      else
        some ((0 : Int32), g))] (
    zvs g x0 12 <| (f_X12_goHush N x0 g).bind fun g22 =>
    some ((1 : Int32), g22))

def f_X12_trial_146 (N : Nat) (x0 : Nat) (x2 : Int32) (s0 : Nat) (s1 : Int64) (g : ZS) : Option (Int32 × ZS) :=
  zvs g s0 12 <| (f_X12_tell s0 s1 g).bind fun g1 =>
  (zrdR g1 x0 12 0).bind fun v2 =>
  (zald 20 g1 v2 (216 : Int32)).bind fun v3 =>
  zvs g1 x0 12 <| (f_X12_tell x0 v3.toInt64 g1).bind fun g4 =>
  some (x2, g4)

def f_X12_trial_130 (N : Nat) (x0 : Nat) (x1 : Int32) (x2 : Int32)  (g : ZS) : Option (Int32 × ZS) :=
  (zwrI g x0 12 9 (0 : Int32)).bind fun g1 =>
  if x1 ≤ x2 then
    f_X12_trial_146 N x0 x2 x0 (0 : Int64) g1
  else
    f_X12_trial_146 N x0 x2 x0 (1 : Int64) g1

def f_X12_trial_118 (N : Nat) (x0 : Nat) (x1 : Int32) (x2 : Int32)  (g : ZS) : Option (Int32 × ZS) :=
  if x2 ≤ 0 then
    f_X12_trial_130 N x0 x1 x2 g
  else
    (zrdR g x0 12 27).bind fun v1 =>
    zvs g x0 12 <| (f_X12_remember N x0 v1 g).bind fun g2 =>
    f_X12_trial_130 N x0 x1 x2 g2

def f_X12_trial_72 (N : Nat) (x0 : Nat) (x1 : Int32) (x2 : Int32)  (g : ZS) : Option ((Int32 × ZS) ⊕ (Int32 × ZS)) :=
  if x1 ≤ x2 then
    (
    f_X12_trial_118 N x0 x1 x2 g).map Sum.inr
  else
    (zrdR g x0 12 29).bind fun v1 =>
    (zald 20 g v1 ((3 : Int32) * x2)).bind fun v2 =>
    (zrdR g x0 12 29).bind fun v3 =>
    (zald 20 g v3 (((3 : Int32) * x2) + (1 : Int32))).bind fun v4 =>
    (zrdR g x0 12 29).bind fun v5 =>
    (zald 20 g v5 (((3 : Int32) * x2) + (2 : Int32))).bind fun v6 =>
    zvs g x0 12 <| (f_X12_act N x0 v2 v4 v6 g).bind fun r7 =>
    if r7.1 = 0 then
      (
      f_X12_trial_118 N x0 x1 x2 r7.2).map Sum.inr
    else
      some (.inl (x2 + (1 : Int32), r7.2))

def f_X12_trial_44 (N : Nat) (x0 : Nat) (x1 : Int32)  (g : ZS) : Option (Int32 × ZS) :=
  zvs g x0 12 <| (f_X12_wasRight x0 g).bind fun r1 =>
  if r1.1 = 0 then
    (zrdI r1.2 x0 12 15).bind fun v5 =>
    some ((-1 : Int32) - v5, r1.2)
  else
    (zrdR r1.2 x0 12 0).bind fun v2 =>
    (zrdR r1.2 x0 12 27).bind fun v3 =>
    (f_X12_lay N v2 v3 (0 : Int32) r1.2).bind fun g4 =>
    zloop (fun s => f_X12_trial_72 N x0 x1 s.1 s.2) N ((0 : Int32), g4)

def f_X12_trial_13 (N : Nat) (x0 : Nat) (x1 : Int32)  (g : ZS) : Option ((Int32 × ZS) ⊕ (Int32 × ZS)) :=
  zvs g x0 12 <| (f_X12_fine x0 g).bind fun v1 =>
  if v1 = 0 then
    (
    f_X12_trial_44 N x0 x1 g).map Sum.inr
  else
    (zrdI g x0 12 14).bind fun v2 =>
    (zrdI g x0 12 12).bind fun v3 =>
    if v3 ≤ v2 then
      (
      f_X12_trial_44 N x0 x1 g).map Sum.inr
    else
      zvs g x0 12 <| (f_X12_readAct x0 ((3 : Int32) * x1) g).bind fun g4 =>
      some (.inl (x1 + (1 : Int32), g4))

def f_X12_trial (N : Nat) (x0 : Nat)  (g : ZS) : Option (Int32 × ZS) :=
  (zwrI g x0 12 10 (0 : Int32)).bind fun g1 =>
  zvs g1 x0 12 <| (f_X12_beginText x0 (60 : Int32) g1).bind fun g2 =>
  zloop (fun s => f_X12_trial_13 N x0 s.1 s.2) N ((0 : Int32), g2)

def f_X12_says (N : Nat) (x0 : Nat) (x1 : Int32)  (g : ZS) : Option (Int32 × ZS) :=
  (zwrI g x0 12 10 (0 : Int32)).bind fun g1 =>
  zvs g1 x0 12 <| (f_X12_isParrot x0 x1 g1).bind fun v2 =>
  if v2 = 0 then
    some ((-1 : Int32), g1)
  else
    (zrdR g1 x0 12 0).bind fun v3 =>
    (zrdR g1 x0 12 22).bind fun v4 =>
    zvs g1 x0 12 <| (f_X12_laySays N x0 v3 x1 v4 g1).bind fun r5 =>
    (zrdR r5.2 x0 12 22).bind fun v6 =>
    zvs r5.2 x0 12 <| (f_X12_tellList N x0 v6 r5.1 r5.2).bind fun g7 =>
    some (r5.1, g7)

def f_X12_placeOf_15 (N : Nat) (x0 : Nat) (x3 : Int32) (x4 : Int32) (x5 : Int32)  (g : ZS) : Option ((Int32) ⊕ (Int32 × ZS)) :=
  if x4 ≤ x5 then
    (
      some ((-2 : Int32), g)).map Sum.inr
  else
    (zrdR g x0 12 22).bind fun v1 =>
    (zald 20 g v1 x5).bind fun v2 =>
    if v2 = x3 then
      (
        some (x5, g)).map Sum.inr
    else
      some (.inl (x5 + (1 : Int32)))

def f_X12_placeOf (N : Nat) (x0 : Nat) (x1 : Nat) (x2 : Int32) (x3 : Int32)  (g : ZS) : Option (Int32 × ZS) :=
  (zrdR g x0 12 22).bind fun v1 =>
  zvs g x0 12 <| (f_X12_laySays N x0 x1 x2 v1 g).bind fun r2 =>
  zloop (fun s => f_X12_placeOf_15 N x0 x3 r2.1 s r2.2) N (0 : Int32)

def f_X12_place_34 (N : Nat)  (s0 : Int32) (g : ZS) : Option (Int32 × ZS) :=
  some (s0, g)

def f_X12_place_33 (N : Nat)   (g : ZS) : Option (Int32 × ZS) :=
  f_X12_place_34 N (-1 : Int32) g

def f_X12_place (N : Nat) (x0 : Nat) (x1 : Int32) (x2 : Int32)  (g : ZS) : Option (Int32 × ZS) :=
  (zwrI g x0 12 10 (0 : Int32)).bind fun g1 =>
  zvs g1 x0 12 <| (f_X12_isParrot x0 x1 g1).bind fun v2 =>
  if v2 = 0 then
    f_X12_place_33 N g1
  else
    (f_X12_isWord x2).bind fun v3 =>
    if v3 = 0 then
      f_X12_place_33 N g1
    else
      (zrdR g1 x0 12 0).bind fun v4 =>
      zvs g1 x0 12 <| (f_X12_placeOf N x0 v4 x1 x2 g1).bind fun r5 =>
      f_X12_place_34 N r5.1 r5.2

def f_X12_soonest_75 (N : Nat) (x0 : Nat) (x1 : Int32) (x2 : Int32) (x3 : Int32) (x4 : Int32) (x5 : Int32)  (g : ZS) : Option ((Int32 × Int32 × Int32 × Int32 × ZS) ⊕ (Int32 × ZS)) :=
  some (.inl (x2, x3, x4, x5 + (1 : Int32), g))

def f_X12_soonest_27 (N : Nat) (x0 : Nat) (x1 : Int32) (x2 : Int32) (x3 : Int32) (x4 : Int32) (x5 : Int32)  (g : ZS) : Option ((Int32 × Int32 × Int32 × Int32 × ZS) ⊕ (Int32 × ZS)) :=
  (zrdI g x0 12 1).bind fun v1 =>
  if v1 ≤ x5 then
    (
      if x2 = (-2 : Int32) then
        some ((-2 : Int32), g)
      else
        (zwrI g x0 12 9 (0 : Int32)).bind fun g2 =>
        zvs g2 x0 12 <| (f_X12_tell x0 x3.toInt64 g2).bind fun g3 =>
        zvs g3 x0 12 <| (f_X12_tell x0 x4.toInt64 g3).bind fun g4 =>
        some (x2, g4)).map Sum.inr
  else
    (zrdR g x0 12 0).bind fun v5 =>
    zvs g x0 12 <| (f_X12_placeOf N x0 v5 x5 x1 g).bind fun r6 =>
    if 0 ≤ r6.1 then
      if r6.1 < x3 then
        f_X12_soonest_75 N x0 x1 x5 r6.1 (x4 + (1 : Int32)) x5 r6.2
      else
        f_X12_soonest_75 N x0 x1 x2 x3 (x4 + (1 : Int32)) x5 r6.2
    else
      f_X12_soonest_75 N x0 x1 x2 x3 x4 x5 r6.2

def f_X12_soonest (N : Nat) (x0 : Nat) (x1 : Int32)  (g : ZS) : Option (Int32 × ZS) :=
  (zwrI g x0 12 10 (0 : Int32)).bind fun g1 =>
  (f_X12_isWord x1).bind fun v2 =>
  if v2 = 0 then
    some ((-1 : Int32), g1)
  else
    zloop (fun s => f_X12_soonest_27 N x0 x1 s.1 s.2.1 s.2.2.1 s.2.2.2.1 s.2.2.2.2) N ((-2 : Int32), (1000000 : Int32), (0 : Int32), (0 : Int32), g1)

def f_X12_saidBits_24 (N : Nat) (x0 : Nat) (x3 : Int32) (x4 : Int32) (x5 : Int32)  (g : ZS) : Option ((Int32 × Int32) ⊕ (Int32 × ZS)) :=
  if x3 ≤ x5 then
    (
      some (x4, g)).map Sum.inr
  else
    (zrdR g x0 12 22).bind fun v1 =>
    (zald 20 g v1 x5).bind fun v2 =>
    some (.inl (x4 ||| ((1 : Int32) <<< (v2 &&& 31)), x5 + (1 : Int32)))

def f_X12_saidBits (N : Nat) (x0 : Nat) (x1 : Int32) (x2 : Int32)  (g : ZS) : Option (Int32 × ZS) :=
  (zrdR g x0 12 0).bind fun v1 =>
  (zrdR g x0 12 22).bind fun v2 =>
  zvs g x0 12 <| (f_X12_laySays N x0 v1 x1 v2 g).bind fun r3 =>
  (f_J9_min_7cf53 x2 r3.1).bind fun v4 =>
  zloop (fun s => f_X12_saidBits_24 N x0 v4 s.1 s.2 r3.2) N ((0 : Int32), (0 : Int32))

def f_X12_unsaid_11 (N : Nat) (x0 : Nat) (x1 : Int32) (x2 : Int32) (x3 : Int32)  (g : ZS) : Option ((Int32 × Int32 × Int32 × ZS) ⊕ (Int32 × ZS)) :=
  (zrdI g x0 12 1).bind fun v1 =>
  if v1 ≤ x3 then
    (
      (zwrI g x0 12 9 (0 : Int32)).bind fun g2 =>
      zvs g2 x0 12 <| (f_X12_tell x0 (((255 : Int32) &&& (x2 ^^^ (-1 : Int32))).toInt64) g2).bind fun g3 =>
      some ((255 : Int32) &&& (x1 ^^^ (-1 : Int32)), g3)).map Sum.inr
  else
    zvs g x0 12 <| (f_X12_saidBits N x0 x3 (8 : Int32) g).bind fun r4 =>
    (zrdR r4.2 x0 12 0).bind fun v5 =>
    (f_X12_heardBits N v5 x3 r4.2).bind fun v6 =>
    some (.inl (x1 ||| r4.1, x2 ||| v6, x3 + (1 : Int32), r4.2))

def f_X12_unsaid (N : Nat) (x0 : Nat)  (g : ZS) : Option (Int32 × ZS) :=
  (zwrI g x0 12 10 (0 : Int32)).bind fun g1 =>
  zloop (fun s => f_X12_unsaid_11 N x0 s.1 s.2.1 s.2.2.1 s.2.2.2) N ((0 : Int32), (0 : Int32), (0 : Int32), g1)

def f_X12_later_23 (N : Nat)   (g : ZS) : Option (Int32 × ZS) :=
  some ((-1 : Int32), g)

def f_X12_later (N : Nat) (x0 : Nat) (x1 : Int32) (x2 : Int32)  (g : ZS) : Option (Int32 × ZS) :=
  (zwrI g x0 12 10 (0 : Int32)).bind fun g1 =>
  zvs g1 x0 12 <| (f_X12_isParrot x0 x1 g1).bind fun v2 =>
  if v2 = 0 then
    f_X12_later_23 N g1
  else
    (f_X12_in x2 (0 : Int32) (60 : Int32)).bind fun v3 =>
    if v3 = 0 then
      f_X12_later_23 N g1
    else
      (zrdR g1 x0 12 0).bind fun v4 =>
      (zrdR g1 x0 12 28).bind fun v5 =>
      (f_X12_lay N v4 v5 (0 : Int32) g1).bind fun g6 =>
      (zrdR g6 x0 12 28).bind fun v7 =>
      zvs g6 x0 12 <| (f_X12_goDays N x0 v7 x2 g6).bind fun g8 =>
      (zrdR g8 x0 12 28).bind fun v9 =>
      (zrdR g8 x0 12 22).bind fun v10 =>
      zvs g8 x0 12 <| (f_X12_laySays N x0 v9 x1 v10 g8).bind fun r11 =>
      (zrdR r11.2 x0 12 22).bind fun v12 =>
      zvs r11.2 x0 12 <| (f_X12_tellList N x0 v12 r11.1 r11.2).bind fun g13 =>
      some (r11.1, g13)

def f_X12_alters_162 (N : Nat) (x3 : Int32) (s0 : Nat) (s1 : Int64) (g : ZS) : Option (Int32 × ZS) :=
  zvs g s0 12 <| (f_X12_tell s0 s1 g).bind fun g1 =>
  some (x3, g1)

def f_X12_alters_128 (N : Nat) (x0 : Nat) (x3 : Int32) (x4 : Int32) (x5 : Int32)  (g : ZS) : Option (Int32 × ZS) :=
  (zwrI g x0 12 9 (0 : Int32)).bind fun g1 =>
  zvs g1 x0 12 <| (f_X12_tell x0 x5.toInt64 g1).bind fun g2 =>
  if x4 ≤ x5 then
    f_X12_alters_162 N x3 x0 (-1 : Int64) g2
  else
    (zrdR g2 x0 12 22).bind fun v3 =>
    (zald 20 g2 v3 x5).bind fun v4 =>
    f_X12_alters_162 N x3 x0 v4.toInt64 g2

def f_X12_alters_112 (N : Nat) (x0 : Nat) (x1 : Int32) (x2 : Int32) (x3 : Int32) (x4 : Int32) (x5 : Int32)  (g : ZS) : Option ((Int32 × ZS) ⊕ (Int32 × ZS)) :=
  if x5 = x2 then
    if x5 = x4 then
      some (.inl (x3 + (1 : Int32), g))
    else
      (
      f_X12_alters_128 N x0 x3 x4 x5 g).map Sum.inr
  else
    (
    f_X12_alters_128 N x0 x3 x4 x5 g).map Sum.inr

def f_X12_alters_76 (N : Nat) (x0 : Nat) (x1 : Int32) (x2 : Int32) (x3 : Int32) (x4 : Int32) (x5 : Int32)  (g : ZS) : Option ((Int32) ⊕ ((Int32 × ZS) ⊕ (Int32 × ZS))) :=
  if x2 ≤ x5 then
    (
    f_X12_alters_112 N x0 x1 x2 x3 x4 x5 g).map Sum.inr
  else
    if x4 ≤ x5 then
      (
      f_X12_alters_112 N x0 x1 x2 x3 x4 x5 g).map Sum.inr
    else
      (zrdR g x0 12 22).bind fun v1 =>
      (zald 20 g v1 x5).bind fun v2 =>
      (zrdR g x0 12 23).bind fun v3 =>
      (zald 20 g v3 x5).bind fun v4 =>
      if v2 = v4 then
        some (.inl (x5 + (1 : Int32)))
      else
        (
        f_X12_alters_112 N x0 x1 x2 x3 x4 x5 g).map Sum.inr

def f_X12_alters_43 (N : Nat) (x0 : Nat) (x1 : Int32) (x2 : Int32) (x3 : Int32)  (g : ZS) : Option ((Int32 × ZS) ⊕ (Int32 × ZS)) :=
  if (60 : Int32) < x3 then
    (
      some ((-2 : Int32), g)).map Sum.inr
  else
    (zrdR g x0 12 28).bind fun v1 =>
    zvs g x0 12 <| (f_X12_goDays N x0 v1 (1 : Int32) g).bind fun g2 =>
    (zrdR g2 x0 12 28).bind fun v3 =>
    (zrdR g2 x0 12 22).bind fun v4 =>
    zvs g2 x0 12 <| (f_X12_laySays N x0 v3 x1 v4 g2).bind fun r5 =>
    zloop (fun s => f_X12_alters_76 N x0 x1 x2 x3 r5.1 s r5.2) N (0 : Int32)

def f_X12_alters (N : Nat) (x0 : Nat) (x1 : Int32)  (g : ZS) : Option (Int32 × ZS) :=
  (zwrI g x0 12 10 (0 : Int32)).bind fun g1 =>
  zvs g1 x0 12 <| (f_X12_isParrot x0 x1 g1).bind fun v2 =>
  if v2 = 0 then
    some ((-1 : Int32), g1)
  else
    (zrdR g1 x0 12 0).bind fun v3 =>
    (zrdR g1 x0 12 28).bind fun v4 =>
    (f_X12_lay N v3 v4 (0 : Int32) g1).bind fun g5 =>
    (zrdR g5 x0 12 0).bind fun v6 =>
    (zrdR g5 x0 12 23).bind fun v7 =>
    zvs g5 x0 12 <| (f_X12_laySays N x0 v6 x1 v7 g5).bind fun r8 =>
    zloop (fun s => f_X12_alters_43 N x0 x1 r8.1 s.1 s.2) N ((1 : Int32), r8.2)

theorem j_X12_readRule_24 {X : ZX} (N : Nat) (x0 : Nat)   (g : ZS) {K : (Int32 × ZS) → Prop} (h0 : ∀ v g, K (v, g) → xK X (some (.int v)) g) : J Y_X12_readRule X 0 0 24 [some (.ref x0)] [] g (f_X12_readRule_24 N x0 g) K := by
  unfold f_X12_readRule_24
  refine J_aload_n rfl rfl (show Dc Y_X12_readRule 24 (.aload_n 0) 1 25 from ⟨by decide +kernel, rfl⟩) ?_
  refine J_callVi (fun r => r.1) (fun r => r.2) (show Dc Y_X12_readRule 25 (.invokevirtual 168) 3 28 from ⟨by decide +kernel, rfl⟩) w_m_RX12_168 w_in_X12_wasRight rfl w_se_X12_wasRight w_cw_X12_wasRight (c_X12_wasRight x0 g) rfl rfl (by decide) (Nat.le_of_ble_eq_true rfl) (by decide) (by decide) (fun r1 => ?_)
  exact J_retZ (show Dc Y_X12_readRule 28 (.ireturn) 1 29 from ⟨by decide +kernel, rfl⟩) rfl (h0 _ _) (by decide) (by decide)

theorem j_X12_readRule {X : ZX} (N : Nat) (x0 : Nat)   (g : ZS) {K : (Int32 × ZS) → Prop} (h0 : ∀ v g, K (v, g) → xK X (some (.int v)) g) : J Y_X12_readRule X 0 0 0 [some (.ref x0)] [] g (f_X12_readRule N x0 g) K := by
  unfold f_X12_readRule
  refine J_aload_n rfl rfl (show Dc Y_X12_readRule 0 (.aload_n 0) 1 1 from ⟨by decide +kernel, rfl⟩) ?_
  refine J_bipush (40 : Int32) rfl (show Dc Y_X12_readRule 1 (.bipush 40) 2 3 from ⟨by decide +kernel, rfl⟩) ?_
  refine J_callVv (fun r => r) (show Dc Y_X12_readRule 3 (.invokevirtual 165) 3 6 from ⟨by decide +kernel, rfl⟩) w_m_RX12_165 w_in_X12_beginText rfl w_se_X12_beginText w_cw_X12_beginText (c_X12_beginText x0 (40 : Int32) g) rfl rfl (by decide) (Nat.le_of_ble_eq_true rfl) (by decide) (by decide) (fun g1 => ?_)
  refine J_aload_n rfl rfl (show Dc Y_X12_readRule 6 (.aload_n 0) 1 7 from ⟨by decide +kernel, rfl⟩) ?_
  refine J_iconst (0 : Int32) rfl (show Dc Y_X12_readRule 7 (.iconst 0) 1 8 from ⟨by decide +kernel, rfl⟩) ?_
  refine J_putZ (show Dc Y_X12_readRule 8 (.putfield 211) 3 11 from ⟨by decide +kernel, rfl⟩) w_f_RX12_211 rfl rfl (fun g2 => ?_) (fun h => by cases h)
  refine J_aload_n rfl rfl (show Dc Y_X12_readRule 11 (.aload_n 0) 1 12 from ⟨by decide +kernel, rfl⟩) ?_
  refine J_getI (show Dc Y_X12_readRule 12 (.getfield 129) 3 15 from ⟨by decide +kernel, rfl⟩) w_f_RX12_129 rfl (fun v3 => ?_)
  refine J_if_le (tg := 24) (show Dc Y_X12_readRule 15 (.ifCond .le 9) 3 18 from ⟨by decide +kernel, rfl⟩) (by decide) (fun h => ?_) (fun h => ?_)
  · exact j_X12_readRule_24 N x0 g2 h0
  · refine J_aload_n rfl rfl (show Dc Y_X12_readRule 18 (.aload_n 0) 1 19 from ⟨by decide +kernel, rfl⟩) ?_
    refine J_iconst (0 : Int32) rfl (show Dc Y_X12_readRule 19 (.iconst 0) 1 20 from ⟨by decide +kernel, rfl⟩) ?_
    refine J_callVi (fun r => r.1) (fun r => r.2) (show Dc Y_X12_readRule 20 (.invokevirtual 198) 3 23 from ⟨by decide +kernel, rfl⟩) w_m_RX12_198 w_in_X12_held rfl w_se_X12_held (w_cw_X12_held _) (c_X12_held N x0 (0 : Int32) g2) rfl rfl (by decide) (Nat.le_of_ble_eq_true rfl) (by decide) (by decide) (fun r4 => ?_)
    refine J_pop rfl (show Dc Y_X12_readRule 23 (.pop) 1 24 from ⟨by decide +kernel, rfl⟩) ?_
    exact j_X12_readRule_24 N x0 r4.2 h0

theorem c_X12_readRule {l : Launch} {D : ZD} {B0 : Nat} (N : Nat) (x0 : Nat) (g : ZS) : ∀ r, f_X12_readRule N x0 g = some r → zCt l D B0 yX12_readRule Y_X12_readRule [.ref x0] g (some (.int r.1)) r.2 :=
  zCt_ofF (vo := fun r => some (.int r.1)) (so := fun r => r.2) (by decide +kernel) rfl (fun h => by cases h) rfl (Nat.le_of_ble_eq_true rfl) (fun X => j_X12_readRule N x0 g (fun _ _ h => h))

theorem j_X12_rule_26 {X : ZX} (N : Nat) (x0 : Nat) (x1 : Int32) (x2 : Int32)   (g : ZS) {K : ((Int32 × ZS) ⊕ (Int32 × ZS)) → Prop} (h0 : ∀ v g, K (.inr (v, g)) → xK X (some (.int v)) g) (hL26 : ∀ s, K (.inl s) → zG Y_X12_rule X 0 0 26 [some (.ref x0), some (.int x1), some (.int s.1)] [] s.2) : J Y_X12_rule X 0 0 26 [some (.ref x0), some (.int x1), some (.int x2)] [] g (f_X12_rule_26 N x0 x1 x2 g) K := by
  unfold f_X12_rule_26
  refine J_iload_n rfl rfl (show Dc Y_X12_rule 26 (.iload_n 2) 1 27 from ⟨by decide +kernel, rfl⟩) ?_
  refine J_iload_n rfl rfl (show Dc Y_X12_rule 27 (.iload_n 1) 1 28 from ⟨by decide +kernel, rfl⟩) ?_
  refine J_icmp_ge (tg := 49) (show Dc Y_X12_rule 28 (.if_icmp .ge 21) 3 31 from ⟨by decide +kernel, rfl⟩) (by decide) (fun h => ?_) (fun h => ?_)
  · refine J_map (f := Sum.inr) (fun _ h => h) ?_
    refine J_aload_n rfl rfl (show Dc Y_X12_rule 49 (.aload_n 0) 1 50 from ⟨by decide +kernel, rfl⟩) ?_
    refine J_iload_n rfl rfl (show Dc Y_X12_rule 50 (.iload_n 1) 1 51 from ⟨by decide +kernel, rfl⟩) ?_
    refine J_putI (show Dc Y_X12_rule 51 (.putfield 218) 3 54 from ⟨by decide +kernel, rfl⟩) w_f_RX12_218 rfl rfl (fun g1 => ?_) (fun h => by cases h)
    refine J_iconst (0 : Int32) rfl (show Dc Y_X12_rule 54 (.iconst 0) 1 55 from ⟨by decide +kernel, rfl⟩) ?_
    exact J_reti (show Dc Y_X12_rule 55 (.ireturn) 1 56 from ⟨by decide +kernel, rfl⟩) rfl (h0 _ _) (by decide) (by decide)
  · refine J_aload_n rfl rfl (show Dc Y_X12_rule 31 (.aload_n 0) 1 32 from ⟨by decide +kernel, rfl⟩) ?_
    refine J_getR (show Dc Y_X12_rule 32 (.getfield 36) 3 35 from ⟨by decide +kernel, rfl⟩) w_f_RX12_36 rfl (fun v2 => ?_)
    refine J_iload_n rfl rfl (show Dc Y_X12_rule 35 (.iload_n 2) 1 36 from ⟨by decide +kernel, rfl⟩) ?_
    refine J_aload_n rfl rfl (show Dc Y_X12_rule 36 (.aload_n 0) 1 37 from ⟨by decide +kernel, rfl⟩) ?_
    refine J_getR (show Dc Y_X12_rule 37 (.getfield 25) 3 40 from ⟨by decide +kernel, rfl⟩) w_f_RX12_25 rfl (fun v3 => ?_)
    refine J_iload_n rfl rfl (show Dc Y_X12_rule 40 (.iload_n 2) 1 41 from ⟨by decide +kernel, rfl⟩) ?_
    refine J_bald (show Dc Y_X12_rule 41 (.baload) 1 42 from ⟨by decide +kernel, rfl⟩) (fun v4 => ?_)
    refine J_bast (show Dc Y_X12_rule 42 (.bastore) 1 43 from ⟨by decide +kernel, rfl⟩) (fun g5 => ?_)
    refine J_iinc (1 : Int32) [some (.ref x0), some (.int x1), some (.int (x2 + (1 : Int32)))] (show Dc Y_X12_rule 43 (.iinc 2 1) 3 46 from ⟨by decide +kernel, rfl⟩) rfl rfl (by decide) rfl rfl ?_
    refine J_goto (tg := 26) (show Dc Y_X12_rule 46 (.goto (-20)) 3 49 from ⟨by decide +kernel, rfl⟩) (by decide) ?_
    exact J_leaf (fun h => hL26 (x2 + (1 : Int32), g5) h)

theorem j_X12_rule {X : ZX} (N : Nat) (x0 : Nat)   (g : ZS) {K : (Int32 × ZS) → Prop} (h0 : ∀ v g, K (v, g) → xK X (some (.int v)) g) : J Y_X12_rule X 0 0 0 [some (.ref x0), none, none] [] g (f_X12_rule N x0 g) K := by
  unfold f_X12_rule
  refine J_aload_n rfl rfl (show Dc Y_X12_rule 0 (.aload_n 0) 1 1 from ⟨by decide +kernel, rfl⟩) ?_
  refine J_iconst (0 : Int32) rfl (show Dc Y_X12_rule 1 (.iconst 0) 1 2 from ⟨by decide +kernel, rfl⟩) ?_
  refine J_putI (show Dc Y_X12_rule 2 (.putfield 109) 3 5 from ⟨by decide +kernel, rfl⟩) w_f_RX12_109 rfl rfl (fun g1 => ?_) (fun h => by cases h)
  refine J_aload_n rfl rfl (show Dc Y_X12_rule 5 (.aload_n 0) 1 6 from ⟨by decide +kernel, rfl⟩) ?_
  refine J_getI (show Dc Y_X12_rule 6 (.getfield 123) 3 9 from ⟨by decide +kernel, rfl⟩) w_f_RX12_123 rfl (fun v2 => ?_)
  refine J_istore_n [some (.ref x0), some (.int v2), none] (show Dc Y_X12_rule 9 (.istore_n 1) 1 10 from ⟨by decide +kernel, rfl⟩) rfl (by decide) rfl rfl ?_
  refine J_aload_n rfl rfl (show Dc Y_X12_rule 10 (.aload_n 0) 1 11 from ⟨by decide +kernel, rfl⟩) ?_
  refine J_callVi (fun r => r.1) (fun r => r.2) (show Dc Y_X12_rule 11 (.invokevirtual 215) 3 14 from ⟨by decide +kernel, rfl⟩) w_m_RX12_215 w_in_X12_readRule rfl w_se_X12_readRule w_cw_X12_readRule (c_X12_readRule N x0 g1) rfl rfl (by decide) (Nat.le_of_ble_eq_true rfl) (by decide) (by decide) (fun r3 => ?_)
  refine J_if_ne (tg := 24) (show Dc Y_X12_rule 14 (.ifCond .ne 10) 3 17 from ⟨by decide +kernel, rfl⟩) (by decide) (fun h => ?_) (fun h => ?_)
  · refine J_iconst (0 : Int32) rfl (show Dc Y_X12_rule 24 (.iconst 0) 1 25 from ⟨by decide +kernel, rfl⟩) ?_
    refine J_istore_n [some (.ref x0), some (.int v2), some (.int (0 : Int32))] (show Dc Y_X12_rule 25 (.istore_n 2) 1 26 from ⟨by decide +kernel, rfl⟩) rfl (by decide) rfl rfl ?_
    exact J_loop (X := X) (K := K) (uc := fun _ => 0) (us := fun _ => 0) (lf := fun s => [some (.ref x0), some (.int v2), some (.int s.1)]) (gf := fun s => s.2) (fun s => j_X12_rule_26 (K := zKl Y_X12_rule X 26 (fun _ => 0) (fun _ => 0) (fun s => [some (.ref x0), some (.int v2), some (.int s.1)]) (fun s => s.2) K) N x0 v2 s.1 s.2 h0 (fun s h => h)) N ((0 : Int32), r3.2)
  · refine J_iconst (-1 : Int32) rfl (show Dc Y_X12_rule 17 (.iconst (-1)) 1 18 from ⟨by decide +kernel, rfl⟩) ?_
    refine J_aload_n rfl rfl (show Dc Y_X12_rule 18 (.aload_n 0) 1 19 from ⟨by decide +kernel, rfl⟩) ?_
    refine J_getI (show Dc Y_X12_rule 19 (.getfield 138) 3 22 from ⟨by decide +kernel, rfl⟩) w_f_RX12_138 rfl (fun v4 => ?_)
    refine J_isub (show Dc Y_X12_rule 22 (.isub) 1 23 from ⟨by decide +kernel, rfl⟩) ?_
    exact J_reti (show Dc Y_X12_rule 23 (.ireturn) 1 24 from ⟨by decide +kernel, rfl⟩) rfl (h0 _ _) (by decide) (by decide)

theorem c_X12_rule {l : Launch} {D : ZD} {B0 : Nat} (N : Nat) (x0 : Nat) (g : ZS) : ∀ r, f_X12_rule N x0 g = some r → zCt l D B0 yX12_rule Y_X12_rule [.ref x0] g (some (.int r.1)) r.2 :=
  zCt_ofF (vo := fun r => some (.int r.1)) (so := fun r => r.2) (by decide +kernel) rfl (fun h => by cases h) rfl (Nat.le_of_ble_eq_true rfl) (fun X => j_X12_rule N x0 g (fun _ _ h => h))

theorem j_X12_fondness {X : ZX} (N : Nat) (x0 : Nat) (x1 : Nat) (x2 : Int32) (x3 : Int32)   (g : ZS) {K : (Int32 × ZS) → Prop} (h0 : ∀ v g, K (v, g) → xK X (some (.int v)) g) : J Y_X12_fondness X 0 0 0 [some (.ref x0), some (.ref x1), some (.int x2), some (.int x3), none, none, none, none] [] g (f_X12_fondness N x0 x1 x2 x3 g) K := by
  unfold f_X12_fondness
  refine J_aload_n rfl rfl (show Dc Y_X12_fondness 0 (.aload_n 1) 1 1 from ⟨by decide +kernel, rfl⟩) ?_
  refine J_iload_n rfl rfl (show Dc Y_X12_fondness 1 (.iload_n 2) 1 2 from ⟨by decide +kernel, rfl⟩) ?_
  refine J_iconst (4 : Int32) rfl (show Dc Y_X12_fondness 2 (.iconst 4) 1 3 from ⟨by decide +kernel, rfl⟩) ?_
  refine J_iload_n rfl rfl (show Dc Y_X12_fondness 3 (.iload_n 3) 1 4 from ⟨by decide +kernel, rfl⟩) ?_
  refine J_iadd (show Dc Y_X12_fondness 4 (.iadd) 1 5 from ⟨by decide +kernel, rfl⟩) ?_
  refine J_callSi (fun r => r) (fun _ => g) (show Dc Y_X12_fondness 5 (.invokestatic 179) 3 8 from ⟨by decide +kernel, rfl⟩) w_m_RX12_179 w_st_X12_of w_cw_X12_of (c_X12_of x2 ((4 : Int32) + x3) g) rfl rfl (by decide) (Nat.le_of_ble_eq_true rfl) (by decide) (by decide) (fun v1 => ?_)
  refine J_iald (show Dc Y_X12_fondness 8 (.iaload) 1 9 from ⟨by decide +kernel, rfl⟩) (fun v2 => ?_)
  refine J_istore [some (.ref x0), some (.ref x1), some (.int x2), some (.int x3), some (.int v2), none, none, none] (show Dc Y_X12_fondness 9 (.istore 4) 2 11 from ⟨by decide +kernel, rfl⟩) (by decide) rfl rfl ?_
  refine J_aload_n rfl rfl (show Dc Y_X12_fondness 11 (.aload_n 1) 1 12 from ⟨by decide +kernel, rfl⟩) ?_
  refine J_iload_n rfl rfl (show Dc Y_X12_fondness 12 (.iload_n 2) 1 13 from ⟨by decide +kernel, rfl⟩) ?_
  refine J_bipush (12 : Int32) rfl (show Dc Y_X12_fondness 13 (.bipush 12) 2 15 from ⟨by decide +kernel, rfl⟩) ?_
  refine J_iload_n rfl rfl (show Dc Y_X12_fondness 15 (.iload_n 3) 1 16 from ⟨by decide +kernel, rfl⟩) ?_
  refine J_iadd (show Dc Y_X12_fondness 16 (.iadd) 1 17 from ⟨by decide +kernel, rfl⟩) ?_
  refine J_callSi (fun r => r) (fun _ => g) (show Dc Y_X12_fondness 17 (.invokestatic 179) 3 20 from ⟨by decide +kernel, rfl⟩) w_m_RX12_179 w_st_X12_of w_cw_X12_of (c_X12_of x2 ((12 : Int32) + x3) g) rfl rfl (by decide) (Nat.le_of_ble_eq_true rfl) (by decide) (by decide) (fun v3 => ?_)
  refine J_iald (show Dc Y_X12_fondness 20 (.iaload) 1 21 from ⟨by decide +kernel, rfl⟩) (fun v4 => ?_)
  refine J_istore [some (.ref x0), some (.ref x1), some (.int x2), some (.int x3), some (.int v2), some (.int v4), none, none] (show Dc Y_X12_fondness 21 (.istore 5) 2 23 from ⟨by decide +kernel, rfl⟩) (by decide) rfl rfl ?_
  refine J_aload_n rfl rfl (show Dc Y_X12_fondness 23 (.aload_n 1) 1 24 from ⟨by decide +kernel, rfl⟩) ?_
  refine J_iload_n rfl rfl (show Dc Y_X12_fondness 24 (.iload_n 2) 1 25 from ⟨by decide +kernel, rfl⟩) ?_
  refine J_bipush (28 : Int32) rfl (show Dc Y_X12_fondness 25 (.bipush 28) 2 27 from ⟨by decide +kernel, rfl⟩) ?_
  refine J_iload_n rfl rfl (show Dc Y_X12_fondness 27 (.iload_n 3) 1 28 from ⟨by decide +kernel, rfl⟩) ?_
  refine J_iadd (show Dc Y_X12_fondness 28 (.iadd) 1 29 from ⟨by decide +kernel, rfl⟩) ?_
  refine J_callSi (fun r => r) (fun _ => g) (show Dc Y_X12_fondness 29 (.invokestatic 179) 3 32 from ⟨by decide +kernel, rfl⟩) w_m_RX12_179 w_st_X12_of w_cw_X12_of (c_X12_of x2 ((28 : Int32) + x3) g) rfl rfl (by decide) (Nat.le_of_ble_eq_true rfl) (by decide) (by decide) (fun v5 => ?_)
  refine J_iald (show Dc Y_X12_fondness 32 (.iaload) 1 33 from ⟨by decide +kernel, rfl⟩) (fun v6 => ?_)
  refine J_istore [some (.ref x0), some (.ref x1), some (.int x2), some (.int x3), some (.int v2), some (.int v4), some (.int v6), none] (show Dc Y_X12_fondness 33 (.istore 6) 2 35 from ⟨by decide +kernel, rfl⟩) (by decide) rfl rfl ?_
  refine J_aload_n rfl rfl (show Dc Y_X12_fondness 35 (.aload_n 0) 1 36 from ⟨by decide +kernel, rfl⟩) ?_
  refine J_getI (show Dc Y_X12_fondness 36 (.getfield 218) 3 39 from ⟨by decide +kernel, rfl⟩) w_f_RX12_218 rfl (fun v7 => ?_)
  refine J_if_ne (tg := 55) (show Dc Y_X12_fondness 39 (.ifCond .ne 16) 3 42 from ⟨by decide +kernel, rfl⟩) (by decide) (fun h => ?_) (fun h => ?_)
  · refine J_aload_n rfl rfl (show Dc Y_X12_fondness 55 (.aload_n 0) 1 56 from ⟨by decide +kernel, rfl⟩) ?_
    refine J_getR (show Dc Y_X12_fondness 56 (.getfield 42) 3 59 from ⟨by decide +kernel, rfl⟩) w_f_RX12_42 rfl (fun v8 => ?_)
    refine J_iconst (0 : Int32) rfl (show Dc Y_X12_fondness 59 (.iconst 0) 1 60 from ⟨by decide +kernel, rfl⟩) ?_
    refine J_iload rfl (show Dc Y_X12_fondness 60 (.iload 4) 2 62 from ⟨by decide +kernel, rfl⟩) ?_
    refine J_iast (show Dc Y_X12_fondness 62 (.iastore) 1 63 from ⟨by decide +kernel, rfl⟩) (fun g9 => ?_)
    refine J_aload_n rfl rfl (show Dc Y_X12_fondness 63 (.aload_n 0) 1 64 from ⟨by decide +kernel, rfl⟩) ?_
    refine J_getR (show Dc Y_X12_fondness 64 (.getfield 42) 3 67 from ⟨by decide +kernel, rfl⟩) w_f_RX12_42 rfl (fun v10 => ?_)
    refine J_iconst (1 : Int32) rfl (show Dc Y_X12_fondness 67 (.iconst 1) 1 68 from ⟨by decide +kernel, rfl⟩) ?_
    refine J_iload rfl (show Dc Y_X12_fondness 68 (.iload 5) 2 70 from ⟨by decide +kernel, rfl⟩) ?_
    refine J_iast (show Dc Y_X12_fondness 70 (.iastore) 1 71 from ⟨by decide +kernel, rfl⟩) (fun g11 => ?_)
    refine J_aload_n rfl rfl (show Dc Y_X12_fondness 71 (.aload_n 0) 1 72 from ⟨by decide +kernel, rfl⟩) ?_
    refine J_getR (show Dc Y_X12_fondness 72 (.getfield 42) 3 75 from ⟨by decide +kernel, rfl⟩) w_f_RX12_42 rfl (fun v12 => ?_)
    refine J_iconst (2 : Int32) rfl (show Dc Y_X12_fondness 75 (.iconst 2) 1 76 from ⟨by decide +kernel, rfl⟩) ?_
    refine J_aload_n rfl rfl (show Dc Y_X12_fondness 76 (.aload_n 1) 1 77 from ⟨by decide +kernel, rfl⟩) ?_
    refine J_iload_n rfl rfl (show Dc Y_X12_fondness 77 (.iload_n 2) 1 78 from ⟨by decide +kernel, rfl⟩) ?_
    refine J_bipush (20 : Int32) rfl (show Dc Y_X12_fondness 78 (.bipush 20) 2 80 from ⟨by decide +kernel, rfl⟩) ?_
    refine J_iload_n rfl rfl (show Dc Y_X12_fondness 80 (.iload_n 3) 1 81 from ⟨by decide +kernel, rfl⟩) ?_
    refine J_iadd (show Dc Y_X12_fondness 81 (.iadd) 1 82 from ⟨by decide +kernel, rfl⟩) ?_
    refine J_callSi (fun r => r) (fun _ => g11) (show Dc Y_X12_fondness 82 (.invokestatic 179) 3 85 from ⟨by decide +kernel, rfl⟩) w_m_RX12_179 w_st_X12_of w_cw_X12_of (c_X12_of x2 ((20 : Int32) + x3) g11) rfl rfl (by decide) (Nat.le_of_ble_eq_true rfl) (by decide) (by decide) (fun v13 => ?_)
    refine J_iald (show Dc Y_X12_fondness 85 (.iaload) 1 86 from ⟨by decide +kernel, rfl⟩) (fun v14 => ?_)
    refine J_iast (show Dc Y_X12_fondness 86 (.iastore) 1 87 from ⟨by decide +kernel, rfl⟩) (fun g15 => ?_)
    refine J_aload_n rfl rfl (show Dc Y_X12_fondness 87 (.aload_n 0) 1 88 from ⟨by decide +kernel, rfl⟩) ?_
    refine J_getR (show Dc Y_X12_fondness 88 (.getfield 42) 3 91 from ⟨by decide +kernel, rfl⟩) w_f_RX12_42 rfl (fun v16 => ?_)
    refine J_iconst (3 : Int32) rfl (show Dc Y_X12_fondness 91 (.iconst 3) 1 92 from ⟨by decide +kernel, rfl⟩) ?_
    refine J_iload rfl (show Dc Y_X12_fondness 92 (.iload 6) 2 94 from ⟨by decide +kernel, rfl⟩) ?_
    refine J_iast (show Dc Y_X12_fondness 94 (.iastore) 1 95 from ⟨by decide +kernel, rfl⟩) (fun g17 => ?_)
    refine J_aload_n rfl rfl (show Dc Y_X12_fondness 95 (.aload_n 0) 1 96 from ⟨by decide +kernel, rfl⟩) ?_
    refine J_getR (show Dc Y_X12_fondness 96 (.getfield 42) 3 99 from ⟨by decide +kernel, rfl⟩) w_f_RX12_42 rfl (fun v18 => ?_)
    refine J_iconst (4 : Int32) rfl (show Dc Y_X12_fondness 99 (.iconst 4) 1 100 from ⟨by decide +kernel, rfl⟩) ?_
    refine J_iload_n rfl rfl (show Dc Y_X12_fondness 100 (.iload_n 3) 1 101 from ⟨by decide +kernel, rfl⟩) ?_
    refine J_iast (show Dc Y_X12_fondness 101 (.iastore) 1 102 from ⟨by decide +kernel, rfl⟩) (fun g19 => ?_)
    refine J_aload_n rfl rfl (show Dc Y_X12_fondness 102 (.aload_n 0) 1 103 from ⟨by decide +kernel, rfl⟩) ?_
    refine J_getR (show Dc Y_X12_fondness 103 (.getfield 42) 3 106 from ⟨by decide +kernel, rfl⟩) w_f_RX12_42 rfl (fun v20 => ?_)
    refine J_iconst (5 : Int32) rfl (show Dc Y_X12_fondness 106 (.iconst 5) 1 107 from ⟨by decide +kernel, rfl⟩) ?_
    refine J_aload_n rfl rfl (show Dc Y_X12_fondness 107 (.aload_n 1) 1 108 from ⟨by decide +kernel, rfl⟩) ?_
    refine J_iload_n rfl rfl (show Dc Y_X12_fondness 108 (.iload_n 2) 1 109 from ⟨by decide +kernel, rfl⟩) ?_
    refine J_iconst (2 : Int32) rfl (show Dc Y_X12_fondness 109 (.iconst 2) 1 110 from ⟨by decide +kernel, rfl⟩) ?_
    refine J_callSi (fun r => r) (fun _ => g19) (show Dc Y_X12_fondness 110 (.invokestatic 179) 3 113 from ⟨by decide +kernel, rfl⟩) w_m_RX12_179 w_st_X12_of w_cw_X12_of (c_X12_of x2 (2 : Int32) g19) rfl rfl (by decide) (Nat.le_of_ble_eq_true rfl) (by decide) (by decide) (fun v21 => ?_)
    refine J_iald (show Dc Y_X12_fondness 113 (.iaload) 1 114 from ⟨by decide +kernel, rfl⟩) (fun v22 => ?_)
    refine J_iast (show Dc Y_X12_fondness 114 (.iastore) 1 115 from ⟨by decide +kernel, rfl⟩) (fun g23 => ?_)
    refine J_aload_n rfl rfl (show Dc Y_X12_fondness 115 (.aload_n 0) 1 116 from ⟨by decide +kernel, rfl⟩) ?_
    refine J_getR (show Dc Y_X12_fondness 116 (.getfield 42) 3 119 from ⟨by decide +kernel, rfl⟩) w_f_RX12_42 rfl (fun v24 => ?_)
    refine J_bipush (6 : Int32) rfl (show Dc Y_X12_fondness 119 (.bipush 6) 2 121 from ⟨by decide +kernel, rfl⟩) ?_
    refine J_aload_n rfl rfl (show Dc Y_X12_fondness 121 (.aload_n 0) 1 122 from ⟨by decide +kernel, rfl⟩) ?_
    refine J_getR (show Dc Y_X12_fondness 122 (.getfield 16) 3 125 from ⟨by decide +kernel, rfl⟩) w_f_RX12_16 rfl (fun v25 => ?_)
    refine J_iload_n rfl rfl (show Dc Y_X12_fondness 125 (.iload_n 3) 1 126 from ⟨by decide +kernel, rfl⟩) ?_
    refine J_iald (show Dc Y_X12_fondness 126 (.iaload) 1 127 from ⟨by decide +kernel, rfl⟩) (fun v26 => ?_)
    refine J_iast (show Dc Y_X12_fondness 127 (.iastore) 1 128 from ⟨by decide +kernel, rfl⟩) (fun g27 => ?_)
    refine J_aload_n rfl rfl (show Dc Y_X12_fondness 128 (.aload_n 0) 1 129 from ⟨by decide +kernel, rfl⟩) ?_
    refine J_aload_n rfl rfl (show Dc Y_X12_fondness 129 (.aload_n 0) 1 130 from ⟨by decide +kernel, rfl⟩) ?_
    refine J_getR (show Dc Y_X12_fondness 130 (.getfield 36) 3 133 from ⟨by decide +kernel, rfl⟩) w_f_RX12_36 rfl (fun v28 => ?_)
    refine J_aload_n rfl rfl (show Dc Y_X12_fondness 133 (.aload_n 0) 1 134 from ⟨by decide +kernel, rfl⟩) ?_
    refine J_getI (show Dc Y_X12_fondness 134 (.getfield 218) 3 137 from ⟨by decide +kernel, rfl⟩) w_f_RX12_218 rfl (fun v29 => ?_)
    refine J_bipush (40 : Int32) rfl (show Dc Y_X12_fondness 137 (.bipush 40) 2 139 from ⟨by decide +kernel, rfl⟩) ?_
    refine J_callVv (fun r => r) (show Dc Y_X12_fondness 139 (.invokevirtual 141) 3 142 from ⟨by decide +kernel, rfl⟩) w_m_RX12_141 w_in_X12_begin rfl w_se_X12_begin w_cw_X12_begin (c_X12_begin x0 v28 v29 (40 : Int32) g27) rfl rfl (by decide) (Nat.le_of_ble_eq_true rfl) (by decide) (by decide) (fun g30 => ?_)
    refine J_aload_n rfl rfl (show Dc Y_X12_fondness 142 (.aload_n 0) 1 143 from ⟨by decide +kernel, rfl⟩) ?_
    refine J_iconst (1 : Int32) rfl (show Dc Y_X12_fondness 143 (.iconst 1) 1 144 from ⟨by decide +kernel, rfl⟩) ?_
    refine J_putZ (show Dc Y_X12_fondness 144 (.putfield 211) 3 147 from ⟨by decide +kernel, rfl⟩) w_f_RX12_211 rfl rfl (fun g31 => ?_) (fun h => by cases h)
    refine J_aload_n rfl rfl (show Dc Y_X12_fondness 147 (.aload_n 0) 1 148 from ⟨by decide +kernel, rfl⟩) ?_
    refine J_iconst (0 : Int32) rfl (show Dc Y_X12_fondness 148 (.iconst 0) 1 149 from ⟨by decide +kernel, rfl⟩) ?_
    refine J_callVi (fun r => r.1) (fun r => r.2) (show Dc Y_X12_fondness 149 (.invokevirtual 198) 3 152 from ⟨by decide +kernel, rfl⟩) w_m_RX12_198 w_in_X12_held rfl w_se_X12_held (w_cw_X12_held _) (c_X12_held N x0 (0 : Int32) g31) rfl rfl (by decide) (Nat.le_of_ble_eq_true rfl) (by decide) (by decide) (fun r32 => ?_)
    refine J_istore [some (.ref x0), some (.ref x1), some (.int x2), some (.int x3), some (.int v2), some (.int v4), some (.int v6), some (.int r32.1)] (show Dc Y_X12_fondness 152 (.istore 7) 2 154 from ⟨by decide +kernel, rfl⟩) (by decide) rfl rfl ?_
    refine J_aload_n rfl rfl (show Dc Y_X12_fondness 154 (.aload_n 0) 1 155 from ⟨by decide +kernel, rfl⟩) ?_
    refine J_iconst (0 : Int32) rfl (show Dc Y_X12_fondness 155 (.iconst 0) 1 156 from ⟨by decide +kernel, rfl⟩) ?_
    refine J_putZ (show Dc Y_X12_fondness 156 (.putfield 211) 3 159 from ⟨by decide +kernel, rfl⟩) w_f_RX12_211 rfl rfl (fun g33 => ?_) (fun h => by cases h)
    refine J_iload rfl (show Dc Y_X12_fondness 159 (.iload 7) 2 161 from ⟨by decide +kernel, rfl⟩) ?_
    exact J_reti (show Dc Y_X12_fondness 161 (.ireturn) 1 162 from ⟨by decide +kernel, rfl⟩) rfl (h0 _ _) (by decide) (by decide)
  · refine J_iload rfl (show Dc Y_X12_fondness 42 (.iload 4) 2 44 from ⟨by decide +kernel, rfl⟩) ?_
    refine J_iconst (3 : Int32) rfl (show Dc Y_X12_fondness 44 (.iconst 3) 1 45 from ⟨by decide +kernel, rfl⟩) ?_
    refine J_imul (show Dc Y_X12_fondness 45 (.imul) 1 46 from ⟨by decide +kernel, rfl⟩) ?_
    refine J_iload rfl (show Dc Y_X12_fondness 46 (.iload 5) 2 48 from ⟨by decide +kernel, rfl⟩) ?_
    refine J_isub (show Dc Y_X12_fondness 48 (.isub) 1 49 from ⟨by decide +kernel, rfl⟩) ?_
    refine J_iload rfl (show Dc Y_X12_fondness 49 (.iload 6) 2 51 from ⟨by decide +kernel, rfl⟩) ?_
    refine J_iconst (5 : Int32) rfl (show Dc Y_X12_fondness 51 (.iconst 5) 1 52 from ⟨by decide +kernel, rfl⟩) ?_
    refine J_imul (show Dc Y_X12_fondness 52 (.imul) 1 53 from ⟨by decide +kernel, rfl⟩) ?_
    refine J_iadd (show Dc Y_X12_fondness 53 (.iadd) 1 54 from ⟨by decide +kernel, rfl⟩) ?_
    exact J_reti (show Dc Y_X12_fondness 54 (.ireturn) 1 55 from ⟨by decide +kernel, rfl⟩) rfl (h0 _ _) (by decide) (by decide)

theorem c_X12_fondness {l : Launch} {D : ZD} {B0 : Nat} (N : Nat) (x0 : Nat) (x1 : Nat) (x2 : Int32) (x3 : Int32) (g : ZS) : ∀ r, f_X12_fondness N x0 x1 x2 x3 g = some r → zCt l D B0 yX12_fondness Y_X12_fondness [.ref x0, .ref x1, .int x2, .int x3] g (some (.int r.1)) r.2 :=
  zCt_ofF (vo := fun r => some (.int r.1)) (so := fun r => r.2) (by decide +kernel) rfl (fun h => by cases h) rfl (Nat.le_of_ble_eq_true rfl) (fun X => j_X12_fondness N x0 x1 x2 x3 g (fun _ _ h => h))

theorem j_X12_word_29 {X : ZX} (N : Nat) (x0 : Nat)   (g : ZS) {K : (Int32 × ZS) → Prop} (h0 : ∀ v g, K (v, g) → xK X (some (.int v)) g) : J Y_X12_word X 0 0 29 [some (.ref x0), none, none, none, none] [] g (f_X12_word_29 N x0 g) K := by
  unfold f_X12_word_29
  refine J_aload_n rfl rfl (show Dc Y_X12_word 29 (.aload_n 0) 1 30 from ⟨by decide +kernel, rfl⟩) ?_
  refine J_callVi (fun r => r.1) (fun r => r.2) (show Dc Y_X12_word 30 (.invokevirtual 237) 3 33 from ⟨by decide +kernel, rfl⟩) w_m_RX12_237 w_in_X12_lost rfl w_se_X12_lost w_cw_X12_lost (c_X12_lost x0 g) rfl rfl (by decide) (Nat.le_of_ble_eq_true rfl) (by decide) (by decide) (fun r1 => ?_)
  exact J_reti (show Dc Y_X12_word 33 (.ireturn) 1 34 from ⟨by decide +kernel, rfl⟩) rfl (h0 _ _) (by decide) (by decide)

theorem j_X12_word_111 {X : ZX} (N : Nat)  (s0 : Int32)  (g : ZS) {K : (Int32 × ZS) → Prop} (h0 : ∀ v g, K (v, g) → xK X (some (.int v)) g) : J Y_X12_word X 0 0 111 [none, none, none, none, none] [.int s0] g (f_X12_word_111 N s0 g) K := by
  unfold f_X12_word_111
  exact J_reti (show Dc Y_X12_word 111 (.ireturn) 1 112 from ⟨by decide +kernel, rfl⟩) rfl (h0 _ _) (by decide) (by decide)

theorem j_X12_word_134 {X : ZX} (N : Nat)  (s0 : Int32)  (g : ZS) {K : (Int32 × ZS) → Prop} (h0 : ∀ v g, K (v, g) → xK X (some (.int v)) g) : J Y_X12_word X 0 0 134 [none, none, none, none, none] [.int s0] g (f_X12_word_134 N s0 g) K := by
  unfold f_X12_word_134
  exact J_reti (show Dc Y_X12_word 134 (.ireturn) 1 135 from ⟨by decide +kernel, rfl⟩) rfl (h0 _ _) (by decide) (by decide)

theorem j_X12_word_168 {X : ZX} (N : Nat)  (s0 : Int32)  (g : ZS) {K : (Int32 × ZS) → Prop} (h0 : ∀ v g, K (v, g) → xK X (some (.int v)) g) : J Y_X12_word X 0 0 168 [none, none, none, none, none] [.int s0] g (f_X12_word_168 N s0 g) K := by
  unfold f_X12_word_168
  exact J_reti (show Dc Y_X12_word 168 (.ireturn) 1 169 from ⟨by decide +kernel, rfl⟩) rfl (h0 _ _) (by decide) (by decide)

theorem j_X12_word {X : ZX} (N : Nat) (x0 : Nat) (x1 : Int32) (x2 : Int32) (x3 : Int32)   (g : ZS) {K : (Int32 × ZS) → Prop} (h0 : ∀ v g, K (v, g) → xK X (some (.int v)) g) : J Y_X12_word X 0 0 0 [some (.ref x0), some (.int x1), some (.int x2), some (.int x3), none] [] g (f_X12_word N x0 x1 x2 x3 g) K := by
  unfold f_X12_word
  refine J_aload_n rfl rfl (show Dc Y_X12_word 0 (.aload_n 0) 1 1 from ⟨by decide +kernel, rfl⟩) ?_
  refine J_iconst (0 : Int32) rfl (show Dc Y_X12_word 1 (.iconst 0) 1 2 from ⟨by decide +kernel, rfl⟩) ?_
  refine J_putI (show Dc Y_X12_word 2 (.putfield 109) 3 5 from ⟨by decide +kernel, rfl⟩) w_f_RX12_109 rfl rfl (fun g1 => ?_) (fun h => by cases h)
  refine J_aload_n rfl rfl (show Dc Y_X12_word 5 (.aload_n 0) 1 6 from ⟨by decide +kernel, rfl⟩) ?_
  refine J_iload_n rfl rfl (show Dc Y_X12_word 6 (.iload_n 1) 1 7 from ⟨by decide +kernel, rfl⟩) ?_
  refine J_callVi (fun r => r) (fun _ => g1) (show Dc Y_X12_word 7 (.invokevirtual 234) 3 10 from ⟨by decide +kernel, rfl⟩) w_m_RX12_234 w_in_X12_isParrot rfl w_se_X12_isParrot w_cw_X12_isParrot (c_X12_isParrot x0 x1 g1) rfl rfl (by decide) (Nat.le_of_ble_eq_true rfl) (by decide) (by decide) (fun v2 => ?_)
  refine J_if_eq (tg := 29) (show Dc Y_X12_word 10 (.ifCond .eq 19) 3 13 from ⟨by decide +kernel, rfl⟩) (by decide) (fun h => ?_) (fun h => ?_)
  · refine J_mask [true, false, false, false, false] ?_
    exact j_X12_word_29 N x0 g1 h0
  · refine J_iload_n rfl rfl (show Dc Y_X12_word 13 (.iload_n 2) 1 14 from ⟨by decide +kernel, rfl⟩) ?_
    refine J_callSi (fun r => r) (fun _ => g1) (show Dc Y_X12_word 14 (.invokestatic 244) 3 17 from ⟨by decide +kernel, rfl⟩) w_m_RX12_244 w_st_X12_isWord w_cw_X12_isWord (c_X12_isWord x2 g1) rfl rfl (by decide) (Nat.le_of_ble_eq_true rfl) (by decide) (by decide) (fun v3 => ?_)
    refine J_if_eq (tg := 29) (show Dc Y_X12_word 17 (.ifCond .eq 12) 3 20 from ⟨by decide +kernel, rfl⟩) (by decide) (fun h => ?_) (fun h => ?_)
    · refine J_mask [true, false, false, false, false] ?_
      exact j_X12_word_29 N x0 g1 h0
    · refine J_iload_n rfl rfl (show Dc Y_X12_word 20 (.iload_n 3) 1 21 from ⟨by decide +kernel, rfl⟩) ?_
      refine J_iconst (0 : Int32) rfl (show Dc Y_X12_word 21 (.iconst 0) 1 22 from ⟨by decide +kernel, rfl⟩) ?_
      refine J_iconst (4 : Int32) rfl (show Dc Y_X12_word 22 (.iconst 4) 1 23 from ⟨by decide +kernel, rfl⟩) ?_
      refine J_callSi (fun r => r) (fun _ => g1) (show Dc Y_X12_word 23 (.invokestatic 119) 3 26 from ⟨by decide +kernel, rfl⟩) w_m_RX12_119 w_st_X12_in w_cw_X12_in (c_X12_in x3 (0 : Int32) (4 : Int32) g1) rfl rfl (by decide) (Nat.le_of_ble_eq_true rfl) (by decide) (by decide) (fun v4 => ?_)
      refine J_if_ne (tg := 34) (show Dc Y_X12_word 26 (.ifCond .ne 8) 3 29 from ⟨by decide +kernel, rfl⟩) (by decide) (fun h => ?_) (fun h => ?_)
      · refine J_aload_n rfl rfl (show Dc Y_X12_word 34 (.aload_n 0) 1 35 from ⟨by decide +kernel, rfl⟩) ?_
        refine J_getR (show Dc Y_X12_word 35 (.getfield 9) 3 38 from ⟨by decide +kernel, rfl⟩) w_f_RX12_9 rfl (fun v5 => ?_)
        refine J_iload_n rfl rfl (show Dc Y_X12_word 38 (.iload_n 1) 1 39 from ⟨by decide +kernel, rfl⟩) ?_
        refine J_iload_n rfl rfl (show Dc Y_X12_word 39 (.iload_n 2) 1 40 from ⟨by decide +kernel, rfl⟩) ?_
        refine J_callSi (fun r => r) (fun _ => g1) (show Dc Y_X12_word 40 (.invokestatic 221) 3 43 from ⟨by decide +kernel, rfl⟩) w_m_RX12_221 w_st_X12_hasHeard w_cw_X12_hasHeard (c_X12_hasHeard v5 x1 x2 g1) rfl rfl (by decide) (Nat.le_of_ble_eq_true rfl) (by decide) (by decide) (fun v6 => ?_)
        refine J_istore [some (.ref x0), some (.int x1), some (.int x2), some (.int x3), some (.int v6)] (show Dc Y_X12_word 43 (.istore 4) 2 45 from ⟨by decide +kernel, rfl⟩) (by decide) rfl rfl ?_
        refine J_iload_n rfl rfl (show Dc Y_X12_word 45 (.iload_n 3) 1 46 from ⟨by decide +kernel, rfl⟩) ?_
        refine J_tsw (tgd := 149) [((0 : Int32), 76, _), ((1 : Int32), 89, _), ((2 : Int32), 112, _), ((3 : Int32), 135, _)] (show Dc Y_X12_word 46 (.tableswitch 103 0 3 #[30, 43, 66, 89]) 30 76 from ⟨by decide +kernel, rfl⟩) (by simp only [List.map_cons, List.map_nil]; decide +kernel) ?_ ?_
        · refine List.forall_mem_cons.mpr ⟨?_, List.forall_mem_cons.mpr ⟨?_, List.forall_mem_cons.mpr ⟨?_, List.forall_mem_cons.mpr ⟨?_, fun _ h => absurd h List.not_mem_nil⟩⟩⟩⟩
          · refine J_aload_n rfl rfl (show Dc Y_X12_word 76 (.aload_n 0) 1 77 from ⟨by decide +kernel, rfl⟩) ?_
            refine J_getR (show Dc Y_X12_word 77 (.getfield 9) 3 80 from ⟨by decide +kernel, rfl⟩) w_f_RX12_9 rfl (fun v7 => ?_)
            refine J_iload_n rfl rfl (show Dc Y_X12_word 80 (.iload_n 1) 1 81 from ⟨by decide +kernel, rfl⟩) ?_
            refine J_iconst (4 : Int32) rfl (show Dc Y_X12_word 81 (.iconst 4) 1 82 from ⟨by decide +kernel, rfl⟩) ?_
            refine J_iload_n rfl rfl (show Dc Y_X12_word 82 (.iload_n 2) 1 83 from ⟨by decide +kernel, rfl⟩) ?_
            refine J_iadd (show Dc Y_X12_word 83 (.iadd) 1 84 from ⟨by decide +kernel, rfl⟩) ?_
            refine J_callSi (fun r => r) (fun _ => g1) (show Dc Y_X12_word 84 (.invokestatic 179) 3 87 from ⟨by decide +kernel, rfl⟩) w_m_RX12_179 w_st_X12_of w_cw_X12_of (c_X12_of x1 ((4 : Int32) + x2) g1) rfl rfl (by decide) (Nat.le_of_ble_eq_true rfl) (by decide) (by decide) (fun v8 => ?_)
            refine J_iald (show Dc Y_X12_word 87 (.iaload) 1 88 from ⟨by decide +kernel, rfl⟩) (fun v9 => ?_)
            exact J_reti (show Dc Y_X12_word 88 (.ireturn) 1 89 from ⟨by decide +kernel, rfl⟩) rfl (h0 _ _) (by decide) (by decide)
          · refine J_iload rfl (show Dc Y_X12_word 89 (.iload 4) 2 91 from ⟨by decide +kernel, rfl⟩) ?_
            refine J_if_eq (tg := 110) (show Dc Y_X12_word 91 (.ifCond .eq 19) 3 94 from ⟨by decide +kernel, rfl⟩) (by decide) (fun h => ?_) (fun h => ?_)
            · refine J_iconst (-1 : Int32) rfl (show Dc Y_X12_word 110 (.iconst (-1)) 1 111 from ⟨by decide +kernel, rfl⟩) ?_
              refine J_mask [false, false, false, false, false] ?_
              exact j_X12_word_111 N (-1 : Int32) g1 h0
            · refine J_aload_n rfl rfl (show Dc Y_X12_word 94 (.aload_n 0) 1 95 from ⟨by decide +kernel, rfl⟩) ?_
              refine J_getR (show Dc Y_X12_word 95 (.getfield 9) 3 98 from ⟨by decide +kernel, rfl⟩) w_f_RX12_9 rfl (fun v10 => ?_)
              refine J_iload_n rfl rfl (show Dc Y_X12_word 98 (.iload_n 1) 1 99 from ⟨by decide +kernel, rfl⟩) ?_
              refine J_bipush (12 : Int32) rfl (show Dc Y_X12_word 99 (.bipush 12) 2 101 from ⟨by decide +kernel, rfl⟩) ?_
              refine J_iload_n rfl rfl (show Dc Y_X12_word 101 (.iload_n 2) 1 102 from ⟨by decide +kernel, rfl⟩) ?_
              refine J_iadd (show Dc Y_X12_word 102 (.iadd) 1 103 from ⟨by decide +kernel, rfl⟩) ?_
              refine J_callSi (fun r => r) (fun _ => g1) (show Dc Y_X12_word 103 (.invokestatic 179) 3 106 from ⟨by decide +kernel, rfl⟩) w_m_RX12_179 w_st_X12_of w_cw_X12_of (c_X12_of x1 ((12 : Int32) + x2) g1) rfl rfl (by decide) (Nat.le_of_ble_eq_true rfl) (by decide) (by decide) (fun v11 => ?_)
              refine J_iald (show Dc Y_X12_word 106 (.iaload) 1 107 from ⟨by decide +kernel, rfl⟩) (fun v12 => ?_)
              refine J_goto (tg := 111) (show Dc Y_X12_word 107 (.goto 4) 3 110 from ⟨by decide +kernel, rfl⟩) (by decide) ?_
              refine J_mask [false, false, false, false, false] ?_
              exact j_X12_word_111 N v12 g1 h0
          · refine J_iload rfl (show Dc Y_X12_word 112 (.iload 4) 2 114 from ⟨by decide +kernel, rfl⟩) ?_
            refine J_if_eq (tg := 133) (show Dc Y_X12_word 114 (.ifCond .eq 19) 3 117 from ⟨by decide +kernel, rfl⟩) (by decide) (fun h => ?_) (fun h => ?_)
            · refine J_iconst (-1 : Int32) rfl (show Dc Y_X12_word 133 (.iconst (-1)) 1 134 from ⟨by decide +kernel, rfl⟩) ?_
              refine J_mask [false, false, false, false, false] ?_
              exact j_X12_word_134 N (-1 : Int32) g1 h0
            · refine J_aload_n rfl rfl (show Dc Y_X12_word 117 (.aload_n 0) 1 118 from ⟨by decide +kernel, rfl⟩) ?_
              refine J_getR (show Dc Y_X12_word 118 (.getfield 9) 3 121 from ⟨by decide +kernel, rfl⟩) w_f_RX12_9 rfl (fun v13 => ?_)
              refine J_iload_n rfl rfl (show Dc Y_X12_word 121 (.iload_n 1) 1 122 from ⟨by decide +kernel, rfl⟩) ?_
              refine J_bipush (20 : Int32) rfl (show Dc Y_X12_word 122 (.bipush 20) 2 124 from ⟨by decide +kernel, rfl⟩) ?_
              refine J_iload_n rfl rfl (show Dc Y_X12_word 124 (.iload_n 2) 1 125 from ⟨by decide +kernel, rfl⟩) ?_
              refine J_iadd (show Dc Y_X12_word 125 (.iadd) 1 126 from ⟨by decide +kernel, rfl⟩) ?_
              refine J_callSi (fun r => r) (fun _ => g1) (show Dc Y_X12_word 126 (.invokestatic 179) 3 129 from ⟨by decide +kernel, rfl⟩) w_m_RX12_179 w_st_X12_of w_cw_X12_of (c_X12_of x1 ((20 : Int32) + x2) g1) rfl rfl (by decide) (Nat.le_of_ble_eq_true rfl) (by decide) (by decide) (fun v14 => ?_)
              refine J_iald (show Dc Y_X12_word 129 (.iaload) 1 130 from ⟨by decide +kernel, rfl⟩) (fun v15 => ?_)
              refine J_goto (tg := 134) (show Dc Y_X12_word 130 (.goto 4) 3 133 from ⟨by decide +kernel, rfl⟩) (by decide) ?_
              refine J_mask [false, false, false, false, false] ?_
              exact j_X12_word_134 N v15 g1 h0
          · refine J_aload_n rfl rfl (show Dc Y_X12_word 135 (.aload_n 0) 1 136 from ⟨by decide +kernel, rfl⟩) ?_
            refine J_getR (show Dc Y_X12_word 136 (.getfield 9) 3 139 from ⟨by decide +kernel, rfl⟩) w_f_RX12_9 rfl (fun v16 => ?_)
            refine J_iload_n rfl rfl (show Dc Y_X12_word 139 (.iload_n 1) 1 140 from ⟨by decide +kernel, rfl⟩) ?_
            refine J_bipush (28 : Int32) rfl (show Dc Y_X12_word 140 (.bipush 28) 2 142 from ⟨by decide +kernel, rfl⟩) ?_
            refine J_iload_n rfl rfl (show Dc Y_X12_word 142 (.iload_n 2) 1 143 from ⟨by decide +kernel, rfl⟩) ?_
            refine J_iadd (show Dc Y_X12_word 143 (.iadd) 1 144 from ⟨by decide +kernel, rfl⟩) ?_
            refine J_callSi (fun r => r) (fun _ => g1) (show Dc Y_X12_word 144 (.invokestatic 179) 3 147 from ⟨by decide +kernel, rfl⟩) w_m_RX12_179 w_st_X12_of w_cw_X12_of (c_X12_of x1 ((28 : Int32) + x2) g1) rfl rfl (by decide) (Nat.le_of_ble_eq_true rfl) (by decide) (by decide) (fun v17 => ?_)
            refine J_iald (show Dc Y_X12_word 147 (.iaload) 1 148 from ⟨by decide +kernel, rfl⟩) (fun v18 => ?_)
            exact J_reti (show Dc Y_X12_word 148 (.ireturn) 1 149 from ⟨by decide +kernel, rfl⟩) rfl (h0 _ _) (by decide) (by decide)
        · refine J_iload rfl (show Dc Y_X12_word 149 (.iload 4) 2 151 from ⟨by decide +kernel, rfl⟩) ?_
          refine J_if_eq (tg := 167) (show Dc Y_X12_word 151 (.ifCond .eq 16) 3 154 from ⟨by decide +kernel, rfl⟩) (by decide) (fun h => ?_) (fun h => ?_)
          · refine J_iconst (0 : Int32) rfl (show Dc Y_X12_word 167 (.iconst 0) 1 168 from ⟨by decide +kernel, rfl⟩) ?_
            refine J_mask [false, false, false, false, false] ?_
            exact j_X12_word_168 N (0 : Int32) g1 h0
          · refine J_aload_n rfl rfl (show Dc Y_X12_word 154 (.aload_n 0) 1 155 from ⟨by decide +kernel, rfl⟩) ?_
            refine J_aload_n rfl rfl (show Dc Y_X12_word 155 (.aload_n 0) 1 156 from ⟨by decide +kernel, rfl⟩) ?_
            refine J_getR (show Dc Y_X12_word 156 (.getfield 9) 3 159 from ⟨by decide +kernel, rfl⟩) w_f_RX12_9 rfl (fun v19 => ?_)
            refine J_iload_n rfl rfl (show Dc Y_X12_word 159 (.iload_n 1) 1 160 from ⟨by decide +kernel, rfl⟩) ?_
            refine J_iload_n rfl rfl (show Dc Y_X12_word 160 (.iload_n 2) 1 161 from ⟨by decide +kernel, rfl⟩) ?_
            refine J_callVi (fun r => r.1) (fun r => r.2) (show Dc Y_X12_word 161 (.invokevirtual 225) 3 164 from ⟨by decide +kernel, rfl⟩) w_m_RX12_225 w_in_X12_fondness rfl w_se_X12_fondness w_cw_X12_fondness (c_X12_fondness N x0 v19 x1 x2 g1) rfl rfl (by decide) (Nat.le_of_ble_eq_true rfl) (by decide) (by decide) (fun r20 => ?_)
            refine J_goto (tg := 168) (show Dc Y_X12_word 164 (.goto 4) 3 167 from ⟨by decide +kernel, rfl⟩) (by decide) ?_
            refine J_mask [false, false, false, false, false] ?_
            exact j_X12_word_168 N r20.1 r20.2 h0
      · refine J_mask [true, false, false, false, false] ?_
        exact j_X12_word_29 N x0 g1 h0

theorem c_X12_word {l : Launch} {D : ZD} {B0 : Nat} (N : Nat) (x0 : Nat) (x1 : Int32) (x2 : Int32) (x3 : Int32) (g : ZS) : ∀ r, f_X12_word N x0 x1 x2 x3 g = some r → zCt l D B0 yX12_word Y_X12_word [.ref x0, .int x1, .int x2, .int x3] g (some (.int r.1)) r.2 :=
  zCt_ofF (vo := fun r => some (.int r.1)) (so := fun r => r.2) (by decide +kernel) rfl (fun h => by cases h) rfl (Nat.le_of_ble_eq_true rfl) (fun X => j_X12_word N x0 x1 x2 x3 g (fun _ _ h => h))

theorem j_X12_laySays_96 {X : ZX} (N : Nat) (x0 : Nat) (x1 : Nat) (x2 : Int32) (x3 : Nat) (x4 : Int32) (x5 : Int32)   (g : ZS) {K : ((Int32 × Int32 × ZS) ⊕ (Int32 × ZS)) → Prop} (h0 : ∀ v g, K (.inr (v, g)) → xK X (some (.int v)) g) (hL6 : ∀ s, K (.inl s) → zG Y_X12_laySays X 0 0 6 [some (.ref x0), some (.ref x1), some (.int x2), some (.ref x3), some (.int s.1), some (.int s.2.1), none] [] s.2.2) : J Y_X12_laySays X 0 0 96 [some (.ref x0), some (.ref x1), some (.int x2), some (.ref x3), some (.int x4), some (.int x5), none] [] g (f_X12_laySays_96 N x0 x1 x2 x3 x4 x5 g) K := by
  unfold f_X12_laySays_96
  refine J_iinc (1 : Int32) [some (.ref x0), some (.ref x1), some (.int x2), some (.ref x3), some (.int x4), some (.int (x5 + (1 : Int32))), none] (show Dc Y_X12_laySays 96 (.iinc 5 1) 3 99 from ⟨by decide +kernel, rfl⟩) rfl rfl (by decide) rfl rfl ?_
  refine J_goto (tg := 6) (show Dc Y_X12_laySays 99 (.goto (-93)) 3 102 from ⟨by decide +kernel, rfl⟩) (by decide) ?_
  exact J_leaf (fun h => hL6 (x4, x5 + (1 : Int32), g) h)

theorem j_X12_laySays_87 {X : ZX} (N : Nat) (x0 : Nat) (x1 : Nat) (x2 : Int32) (x3 : Nat) (x4 : Int32) (x5 : Int32) (x6 : Int32)   (g : ZS) {K : ((Int32 × Int32 × ZS) ⊕ (Int32 × ZS)) → Prop} (h0 : ∀ v g, K (.inr (v, g)) → xK X (some (.int v)) g) (hL6 : ∀ s, K (.inl s) → zG Y_X12_laySays X 0 0 6 [some (.ref x0), some (.ref x1), some (.int x2), some (.ref x3), some (.int s.1), some (.int s.2.1), none] [] s.2.2) : J Y_X12_laySays X 0 0 87 [some (.ref x0), some (.ref x1), some (.int x2), some (.ref x3), some (.int x4), some (.int x5), some (.int x6)] [] g (f_X12_laySays_87 N x0 x1 x2 x3 x4 x5 x6 g) K := by
  unfold f_X12_laySays_87
  refine J_aload_n rfl rfl (show Dc Y_X12_laySays 87 (.aload_n 3) 1 88 from ⟨by decide +kernel, rfl⟩) ?_
  refine J_iload rfl (show Dc Y_X12_laySays 88 (.iload 6) 2 90 from ⟨by decide +kernel, rfl⟩) ?_
  refine J_iload rfl (show Dc Y_X12_laySays 90 (.iload 5) 2 92 from ⟨by decide +kernel, rfl⟩) ?_
  refine J_iast (show Dc Y_X12_laySays 92 (.iastore) 1 93 from ⟨by decide +kernel, rfl⟩) (fun g1 => ?_)
  refine J_iinc (1 : Int32) [some (.ref x0), some (.ref x1), some (.int x2), some (.ref x3), some (.int (x4 + (1 : Int32))), some (.int x5), some (.int x6)] (show Dc Y_X12_laySays 93 (.iinc 4 1) 3 96 from ⟨by decide +kernel, rfl⟩) rfl rfl (by decide) rfl rfl ?_
  refine J_mask [true, true, true, true, true, true, false] ?_
  exact j_X12_laySays_96 N x0 x1 x2 x3 (x4 + (1 : Int32)) x5 g1 h0 hL6

theorem j_X12_laySays_45 {X : ZX} (N : Nat) (x0 : Nat) (x1 : Nat) (x2 : Int32) (x3 : Nat) (x4 : Int32) (x5 : Int32) (x6 : Int32)   (g : ZS) {K : ((Int32 × ZS) ⊕ ((Int32 × Int32 × ZS) ⊕ (Int32 × ZS))) → Prop} (h0 : ∀ v g, K (.inr (.inr (v, g))) → xK X (some (.int v)) g) (hL6 : ∀ s, K (.inr (.inl s)) → zG Y_X12_laySays X 0 0 6 [some (.ref x0), some (.ref x1), some (.int x2), some (.ref x3), some (.int s.1), some (.int s.2.1), none] [] s.2.2) (hL45 : ∀ s, K (.inl s) → zG Y_X12_laySays X 0 0 45 [some (.ref x0), some (.ref x1), some (.int x2), some (.ref x3), some (.int x4), some (.int x5), some (.int s.1)] [] s.2) : J Y_X12_laySays X 0 0 45 [some (.ref x0), some (.ref x1), some (.int x2), some (.ref x3), some (.int x4), some (.int x5), some (.int x6)] [] g (f_X12_laySays_45 N x0 x1 x2 x3 x4 x5 x6 g) K := by
  unfold f_X12_laySays_45
  refine J_iload rfl (show Dc Y_X12_laySays 45 (.iload 6) 2 47 from ⟨by decide +kernel, rfl⟩) ?_
  refine J_if_le (tg := 87) (show Dc Y_X12_laySays 47 (.ifCond .le 40) 3 50 from ⟨by decide +kernel, rfl⟩) (by decide) (fun h => ?_) (fun h => ?_)
  · refine J_map (f := Sum.inr) (fun _ h => h) ?_
    exact j_X12_laySays_87 (K := fun o => K (.inr o)) N x0 x1 x2 x3 x4 x5 x6 g h0 hL6
  · refine J_aload_n rfl rfl (show Dc Y_X12_laySays 50 (.aload_n 0) 1 51 from ⟨by decide +kernel, rfl⟩) ?_
    refine J_getR (show Dc Y_X12_laySays 51 (.getfield 51) 3 54 from ⟨by decide +kernel, rfl⟩) w_f_RX12_51 rfl (fun v1 => ?_)
    refine J_iload rfl (show Dc Y_X12_laySays 54 (.iload 5) 2 56 from ⟨by decide +kernel, rfl⟩) ?_
    refine J_iald (show Dc Y_X12_laySays 56 (.iaload) 1 57 from ⟨by decide +kernel, rfl⟩) (fun v2 => ?_)
    refine J_aload_n rfl rfl (show Dc Y_X12_laySays 57 (.aload_n 0) 1 58 from ⟨by decide +kernel, rfl⟩) ?_
    refine J_getR (show Dc Y_X12_laySays 58 (.getfield 51) 3 61 from ⟨by decide +kernel, rfl⟩) w_f_RX12_51 rfl (fun v3 => ?_)
    refine J_aload_n rfl rfl (show Dc Y_X12_laySays 61 (.aload_n 3) 1 62 from ⟨by decide +kernel, rfl⟩) ?_
    refine J_iload rfl (show Dc Y_X12_laySays 62 (.iload 6) 2 64 from ⟨by decide +kernel, rfl⟩) ?_
    refine J_iconst (1 : Int32) rfl (show Dc Y_X12_laySays 64 (.iconst 1) 1 65 from ⟨by decide +kernel, rfl⟩) ?_
    refine J_isub (show Dc Y_X12_laySays 65 (.isub) 1 66 from ⟨by decide +kernel, rfl⟩) ?_
    refine J_iald (show Dc Y_X12_laySays 66 (.iaload) 1 67 from ⟨by decide +kernel, rfl⟩) (fun v4 => ?_)
    refine J_iald (show Dc Y_X12_laySays 67 (.iaload) 1 68 from ⟨by decide +kernel, rfl⟩) (fun v5 => ?_)
    refine J_icmp_le (tg := 87) (show Dc Y_X12_laySays 68 (.if_icmp .le 19) 3 71 from ⟨by decide +kernel, rfl⟩) (by decide) (fun h => ?_) (fun h => ?_)
    · refine J_map (f := Sum.inr) (fun _ h => h) ?_
      exact j_X12_laySays_87 (K := fun o => K (.inr o)) N x0 x1 x2 x3 x4 x5 x6 g h0 hL6
    · refine J_aload_n rfl rfl (show Dc Y_X12_laySays 71 (.aload_n 3) 1 72 from ⟨by decide +kernel, rfl⟩) ?_
      refine J_iload rfl (show Dc Y_X12_laySays 72 (.iload 6) 2 74 from ⟨by decide +kernel, rfl⟩) ?_
      refine J_aload_n rfl rfl (show Dc Y_X12_laySays 74 (.aload_n 3) 1 75 from ⟨by decide +kernel, rfl⟩) ?_
      refine J_iload rfl (show Dc Y_X12_laySays 75 (.iload 6) 2 77 from ⟨by decide +kernel, rfl⟩) ?_
      refine J_iconst (1 : Int32) rfl (show Dc Y_X12_laySays 77 (.iconst 1) 1 78 from ⟨by decide +kernel, rfl⟩) ?_
      refine J_isub (show Dc Y_X12_laySays 78 (.isub) 1 79 from ⟨by decide +kernel, rfl⟩) ?_
      refine J_iald (show Dc Y_X12_laySays 79 (.iaload) 1 80 from ⟨by decide +kernel, rfl⟩) (fun v6 => ?_)
      refine J_iast (show Dc Y_X12_laySays 80 (.iastore) 1 81 from ⟨by decide +kernel, rfl⟩) (fun g7 => ?_)
      refine J_iinc (-1 : Int32) [some (.ref x0), some (.ref x1), some (.int x2), some (.ref x3), some (.int x4), some (.int x5), some (.int (x6 + (-1 : Int32)))] (show Dc Y_X12_laySays 81 (.iinc 6 (-1)) 3 84 from ⟨by decide +kernel, rfl⟩) rfl rfl (by decide) rfl rfl ?_
      refine J_goto (tg := 45) (show Dc Y_X12_laySays 84 (.goto (-39)) 3 87 from ⟨by decide +kernel, rfl⟩) (by decide) ?_
      exact J_leaf (fun h => hL45 (x6 + (-1 : Int32), g7) h)

theorem j_X12_laySays_6 {X : ZX} (N : Nat) (x0 : Nat) (x1 : Nat) (x2 : Int32) (x3 : Nat) (x4 : Int32) (x5 : Int32)   (g : ZS) {K : ((Int32 × Int32 × ZS) ⊕ (Int32 × ZS)) → Prop} (h0 : ∀ v g, K (.inr (v, g)) → xK X (some (.int v)) g) (hL6 : ∀ s, K (.inl s) → zG Y_X12_laySays X 0 0 6 [some (.ref x0), some (.ref x1), some (.int x2), some (.ref x3), some (.int s.1), some (.int s.2.1), none] [] s.2.2) : J Y_X12_laySays X 0 0 6 [some (.ref x0), some (.ref x1), some (.int x2), some (.ref x3), some (.int x4), some (.int x5), none] [] g (f_X12_laySays_6 N x0 x1 x2 x3 x4 x5 g) K := by
  unfold f_X12_laySays_6
  refine J_iload rfl (show Dc Y_X12_laySays 6 (.iload 5) 2 8 from ⟨by decide +kernel, rfl⟩) ?_
  refine J_bipush (8 : Int32) rfl (show Dc Y_X12_laySays 8 (.bipush 8) 2 10 from ⟨by decide +kernel, rfl⟩) ?_
  refine J_icmp_ge (tg := 102) (show Dc Y_X12_laySays 10 (.if_icmp .ge 92) 3 13 from ⟨by decide +kernel, rfl⟩) (by decide) (fun h => ?_) (fun h => ?_)
  · refine J_map (f := Sum.inr) (fun _ h => h) ?_
    refine J_iload rfl (show Dc Y_X12_laySays 102 (.iload 4) 2 104 from ⟨by decide +kernel, rfl⟩) ?_
    refine J_aload_n rfl rfl (show Dc Y_X12_laySays 104 (.aload_n 0) 1 105 from ⟨by decide +kernel, rfl⟩) ?_
    refine J_getR (show Dc Y_X12_laySays 105 (.getfield 13) 3 108 from ⟨by decide +kernel, rfl⟩) w_f_RX12_13 rfl (fun v1 => ?_)
    refine J_iload_n rfl rfl (show Dc Y_X12_laySays 108 (.iload_n 2) 1 109 from ⟨by decide +kernel, rfl⟩) ?_
    refine J_iald (show Dc Y_X12_laySays 109 (.iaload) 1 110 from ⟨by decide +kernel, rfl⟩) (fun v2 => ?_)
    refine J_callSi (fun r => r) (fun _ => g) (show Dc Y_X12_laySays 110 (.invokestatic 229) 3 113 from ⟨by decide +kernel, rfl⟩) w_m_RX12_229 w_st_J9_min_7cf53 w_cw_J9_min_7cf53 (c_J9_min_7cf53 x4 v2 g) rfl rfl (by decide) (Nat.le_of_ble_eq_true rfl) (by decide) (by decide) (fun v3 => ?_)
    exact J_reti (show Dc Y_X12_laySays 113 (.ireturn) 1 114 from ⟨by decide +kernel, rfl⟩) rfl (h0 _ _) (by decide) (by decide)
  · refine J_aload_n rfl rfl (show Dc Y_X12_laySays 13 (.aload_n 1) 1 14 from ⟨by decide +kernel, rfl⟩) ?_
    refine J_iload_n rfl rfl (show Dc Y_X12_laySays 14 (.iload_n 2) 1 15 from ⟨by decide +kernel, rfl⟩) ?_
    refine J_iload rfl (show Dc Y_X12_laySays 15 (.iload 5) 2 17 from ⟨by decide +kernel, rfl⟩) ?_
    refine J_callSi (fun r => r) (fun _ => g) (show Dc Y_X12_laySays 17 (.invokestatic 221) 3 20 from ⟨by decide +kernel, rfl⟩) w_m_RX12_221 w_st_X12_hasHeard w_cw_X12_hasHeard (c_X12_hasHeard x1 x2 x5 g) rfl rfl (by decide) (Nat.le_of_ble_eq_true rfl) (by decide) (by decide) (fun v4 => ?_)
    refine J_if_ne (tg := 26) (show Dc Y_X12_laySays 20 (.ifCond .ne 6) 3 23 from ⟨by decide +kernel, rfl⟩) (by decide) (fun h => ?_) (fun h => ?_)
    · refine J_aload_n rfl rfl (show Dc Y_X12_laySays 26 (.aload_n 0) 1 27 from ⟨by decide +kernel, rfl⟩) ?_
      refine J_getR (show Dc Y_X12_laySays 27 (.getfield 51) 3 30 from ⟨by decide +kernel, rfl⟩) w_f_RX12_51 rfl (fun v5 => ?_)
      refine J_iload rfl (show Dc Y_X12_laySays 30 (.iload 5) 2 32 from ⟨by decide +kernel, rfl⟩) ?_
      refine J_aload_n rfl rfl (show Dc Y_X12_laySays 32 (.aload_n 0) 1 33 from ⟨by decide +kernel, rfl⟩) ?_
      refine J_aload_n rfl rfl (show Dc Y_X12_laySays 33 (.aload_n 1) 1 34 from ⟨by decide +kernel, rfl⟩) ?_
      refine J_iload_n rfl rfl (show Dc Y_X12_laySays 34 (.iload_n 2) 1 35 from ⟨by decide +kernel, rfl⟩) ?_
      refine J_iload rfl (show Dc Y_X12_laySays 35 (.iload 5) 2 37 from ⟨by decide +kernel, rfl⟩) ?_
      refine J_callVi (fun r => r.1) (fun r => r.2) (show Dc Y_X12_laySays 37 (.invokevirtual 225) 3 40 from ⟨by decide +kernel, rfl⟩) w_m_RX12_225 w_in_X12_fondness rfl w_se_X12_fondness w_cw_X12_fondness (c_X12_fondness N x0 x1 x2 x5 g) rfl rfl (by decide) (Nat.le_of_ble_eq_true rfl) (by decide) (by decide) (fun r6 => ?_)
      refine J_iast (show Dc Y_X12_laySays 40 (.iastore) 1 41 from ⟨by decide +kernel, rfl⟩) (fun g7 => ?_)
      refine J_iload rfl (show Dc Y_X12_laySays 41 (.iload 4) 2 43 from ⟨by decide +kernel, rfl⟩) ?_
      refine J_istore [some (.ref x0), some (.ref x1), some (.int x2), some (.ref x3), some (.int x4), some (.int x5), some (.int x4)] (show Dc Y_X12_laySays 43 (.istore 6) 2 45 from ⟨by decide +kernel, rfl⟩) (by decide) rfl rfl ?_
      exact J_loop (X := X) (K := K) (uc := fun _ => 0) (us := fun _ => 0) (lf := fun s => [some (.ref x0), some (.ref x1), some (.int x2), some (.ref x3), some (.int x4), some (.int x5), some (.int s.1)]) (gf := fun s => s.2) (fun s => j_X12_laySays_45 (K := zKl Y_X12_laySays X 45 (fun _ => 0) (fun _ => 0) (fun s => [some (.ref x0), some (.ref x1), some (.int x2), some (.ref x3), some (.int x4), some (.int x5), some (.int s.1)]) (fun s => s.2) K) N x0 x1 x2 x3 x4 x5 s.1 s.2 h0 hL6 (fun s h => h)) N (x4, g7)
    · refine J_goto (tg := 96) (show Dc Y_X12_laySays 23 (.goto 73) 3 26 from ⟨by decide +kernel, rfl⟩) (by decide) ?_
      exact j_X12_laySays_96 N x0 x1 x2 x3 x4 x5 g h0 hL6

theorem j_X12_laySays {X : ZX} (N : Nat) (x0 : Nat) (x1 : Nat) (x2 : Int32) (x3 : Nat)   (g : ZS) {K : (Int32 × ZS) → Prop} (h0 : ∀ v g, K (v, g) → xK X (some (.int v)) g) : J Y_X12_laySays X 0 0 0 [some (.ref x0), some (.ref x1), some (.int x2), some (.ref x3), none, none, none] [] g (f_X12_laySays N x0 x1 x2 x3 g) K := by
  unfold f_X12_laySays
  refine J_iconst (0 : Int32) rfl (show Dc Y_X12_laySays 0 (.iconst 0) 1 1 from ⟨by decide +kernel, rfl⟩) ?_
  refine J_istore [some (.ref x0), some (.ref x1), some (.int x2), some (.ref x3), some (.int (0 : Int32)), none, none] (show Dc Y_X12_laySays 1 (.istore 4) 2 3 from ⟨by decide +kernel, rfl⟩) (by decide) rfl rfl ?_
  refine J_iconst (0 : Int32) rfl (show Dc Y_X12_laySays 3 (.iconst 0) 1 4 from ⟨by decide +kernel, rfl⟩) ?_
  refine J_istore [some (.ref x0), some (.ref x1), some (.int x2), some (.ref x3), some (.int (0 : Int32)), some (.int (0 : Int32)), none] (show Dc Y_X12_laySays 4 (.istore 5) 2 6 from ⟨by decide +kernel, rfl⟩) (by decide) rfl rfl ?_
  exact J_loop (X := X) (K := K) (uc := fun _ => 0) (us := fun _ => 0) (lf := fun s => [some (.ref x0), some (.ref x1), some (.int x2), some (.ref x3), some (.int s.1), some (.int s.2.1), none]) (gf := fun s => s.2.2) (fun s => j_X12_laySays_6 (K := zKl Y_X12_laySays X 6 (fun _ => 0) (fun _ => 0) (fun s => [some (.ref x0), some (.ref x1), some (.int x2), some (.ref x3), some (.int s.1), some (.int s.2.1), none]) (fun s => s.2.2) K) N x0 x1 x2 x3 s.1 s.2.1 s.2.2 h0 (fun s h => h)) N ((0 : Int32), (0 : Int32), g)

theorem c_X12_laySays {l : Launch} {D : ZD} {B0 : Nat} (N : Nat) (x0 : Nat) (x1 : Nat) (x2 : Int32) (x3 : Nat) (g : ZS) : ∀ r, f_X12_laySays N x0 x1 x2 x3 g = some r → zCt l D B0 yX12_laySays Y_X12_laySays [.ref x0, .ref x1, .int x2, .ref x3] g (some (.int r.1)) r.2 :=
  zCt_ofF (vo := fun r => some (.int r.1)) (so := fun r => r.2) (by decide +kernel) rfl (fun h => by cases h) rfl (Nat.le_of_ble_eq_true rfl) (fun X => j_X12_laySays N x0 x1 x2 x3 g (fun _ _ h => h))

theorem j_X12_refusesSpeak_50 {X : ZX} (N : Nat)  (s0 : Int32)  (g : ZS) {K : (Int32 × ZS) → Prop} (h0 : ∀ v g, K (v, g) → xK X (some (.int v)) g) : J Y_X12_refusesSpeak X 0 0 50 [none, none, none] [.int s0] g (f_X12_refusesSpeak_50 N s0 g) K := by
  unfold f_X12_refusesSpeak_50
  exact J_reti (show Dc Y_X12_refusesSpeak 50 (.ireturn) 1 51 from ⟨by decide +kernel, rfl⟩) rfl (h0 _ _) (by decide) (by decide)

theorem j_X12_refusesSpeak {X : ZX} (N : Nat) (x0 : Nat) (x1 : Nat) (x2 : Int32)   (g : ZS) {K : (Int32 × ZS) → Prop} (h0 : ∀ v g, K (v, g) → xK X (some (.int v)) g) : J Y_X12_refusesSpeak X 0 0 0 [some (.ref x0), some (.ref x1), some (.int x2)] [] g (f_X12_refusesSpeak N x0 x1 x2 g) K := by
  unfold f_X12_refusesSpeak
  refine J_aload_n rfl rfl (show Dc Y_X12_refusesSpeak 0 (.aload_n 0) 1 1 from ⟨by decide +kernel, rfl⟩) ?_
  refine J_iload_n rfl rfl (show Dc Y_X12_refusesSpeak 1 (.iload_n 2) 1 2 from ⟨by decide +kernel, rfl⟩) ?_
  refine J_callVi (fun r => r) (fun _ => g) (show Dc Y_X12_refusesSpeak 2 (.invokevirtual 234) 3 5 from ⟨by decide +kernel, rfl⟩) w_m_RX12_234 w_in_X12_isParrot rfl w_se_X12_isParrot w_cw_X12_isParrot (c_X12_isParrot x0 x2 g) rfl rfl (by decide) (Nat.le_of_ble_eq_true rfl) (by decide) (by decide) (fun v1 => ?_)
  refine J_if_ne (tg := 10) (show Dc Y_X12_refusesSpeak 5 (.ifCond .ne 5) 3 8 from ⟨by decide +kernel, rfl⟩) (by decide) (fun h => ?_) (fun h => ?_)
  · refine J_aload_n rfl rfl (show Dc Y_X12_refusesSpeak 10 (.aload_n 1) 1 11 from ⟨by decide +kernel, rfl⟩) ?_
    refine J_iload_n rfl rfl (show Dc Y_X12_refusesSpeak 11 (.iload_n 2) 1 12 from ⟨by decide +kernel, rfl⟩) ?_
    refine J_iconst (1 : Int32) rfl (show Dc Y_X12_refusesSpeak 12 (.iconst 1) 1 13 from ⟨by decide +kernel, rfl⟩) ?_
    refine J_callSi (fun r => r) (fun _ => g) (show Dc Y_X12_refusesSpeak 13 (.invokestatic 179) 3 16 from ⟨by decide +kernel, rfl⟩) w_m_RX12_179 w_st_X12_of w_cw_X12_of (c_X12_of x2 (1 : Int32) g) rfl rfl (by decide) (Nat.le_of_ble_eq_true rfl) (by decide) (by decide) (fun v2 => ?_)
    refine J_iald (show Dc Y_X12_refusesSpeak 16 (.iaload) 1 17 from ⟨by decide +kernel, rfl⟩) (fun v3 => ?_)
    refine J_iconst (1 : Int32) rfl (show Dc Y_X12_refusesSpeak 17 (.iconst 1) 1 18 from ⟨by decide +kernel, rfl⟩) ?_
    refine J_icmp_ne (tg := 24) (show Dc Y_X12_refusesSpeak 18 (.if_icmp .ne 6) 3 21 from ⟨by decide +kernel, rfl⟩) (by decide) (fun h => ?_) (fun h => ?_)
    · refine J_aload_n rfl rfl (show Dc Y_X12_refusesSpeak 24 (.aload_n 1) 1 25 from ⟨by decide +kernel, rfl⟩) ?_
      refine J_iload_n rfl rfl (show Dc Y_X12_refusesSpeak 25 (.iload_n 2) 1 26 from ⟨by decide +kernel, rfl⟩) ?_
      refine J_iconst (3 : Int32) rfl (show Dc Y_X12_refusesSpeak 26 (.iconst 3) 1 27 from ⟨by decide +kernel, rfl⟩) ?_
      refine J_callSi (fun r => r) (fun _ => g) (show Dc Y_X12_refusesSpeak 27 (.invokestatic 179) 3 30 from ⟨by decide +kernel, rfl⟩) w_m_RX12_179 w_st_X12_of w_cw_X12_of (c_X12_of x2 (3 : Int32) g) rfl rfl (by decide) (Nat.le_of_ble_eq_true rfl) (by decide) (by decide) (fun v4 => ?_)
      refine J_iald (show Dc Y_X12_refusesSpeak 30 (.iaload) 1 31 from ⟨by decide +kernel, rfl⟩) (fun v5 => ?_)
      refine J_aload_n rfl rfl (show Dc Y_X12_refusesSpeak 31 (.aload_n 0) 1 32 from ⟨by decide +kernel, rfl⟩) ?_
      refine J_aload_n rfl rfl (show Dc Y_X12_refusesSpeak 32 (.aload_n 1) 1 33 from ⟨by decide +kernel, rfl⟩) ?_
      refine J_iload_n rfl rfl (show Dc Y_X12_refusesSpeak 33 (.iload_n 2) 1 34 from ⟨by decide +kernel, rfl⟩) ?_
      refine J_aload_n rfl rfl (show Dc Y_X12_refusesSpeak 34 (.aload_n 0) 1 35 from ⟨by decide +kernel, rfl⟩) ?_
      refine J_getR (show Dc Y_X12_refusesSpeak 35 (.getfield 45) 3 38 from ⟨by decide +kernel, rfl⟩) w_f_RX12_45 rfl (fun v6 => ?_)
      refine J_callVi (fun r => r.1) (fun r => r.2) (show Dc Y_X12_refusesSpeak 38 (.invokevirtual 291) 3 41 from ⟨by decide +kernel, rfl⟩) w_m_RX12_291 w_in_X12_laySays rfl w_se_X12_laySays w_cw_X12_laySays (c_X12_laySays N x0 x1 x2 v6 g) rfl rfl (by decide) (Nat.le_of_ble_eq_true rfl) (by decide) (by decide) (fun r7 => ?_)
      refine J_icmp_lt (tg := 49) (show Dc Y_X12_refusesSpeak 41 (.if_icmp .lt 8) 3 44 from ⟨by decide +kernel, rfl⟩) (by decide) (fun h => ?_) (fun h => ?_)
      · refine J_iconst (0 : Int32) rfl (show Dc Y_X12_refusesSpeak 49 (.iconst 0) 1 50 from ⟨by decide +kernel, rfl⟩) ?_
        refine J_mask [false, false, false] ?_
        exact j_X12_refusesSpeak_50 N (0 : Int32) r7.2 h0
      · refine J_bipush (-3 : Int32) rfl (show Dc Y_X12_refusesSpeak 44 (.bipush (-3)) 2 46 from ⟨by decide +kernel, rfl⟩) ?_
        refine J_goto (tg := 50) (show Dc Y_X12_refusesSpeak 46 (.goto 4) 3 49 from ⟨by decide +kernel, rfl⟩) (by decide) ?_
        refine J_mask [false, false, false] ?_
        exact j_X12_refusesSpeak_50 N (-3 : Int32) r7.2 h0
    · refine J_bipush (-2 : Int32) rfl (show Dc Y_X12_refusesSpeak 21 (.bipush (-2)) 2 23 from ⟨by decide +kernel, rfl⟩) ?_
      exact J_reti (show Dc Y_X12_refusesSpeak 23 (.ireturn) 1 24 from ⟨by decide +kernel, rfl⟩) rfl (h0 _ _) (by decide) (by decide)
  · refine J_iconst (-1 : Int32) rfl (show Dc Y_X12_refusesSpeak 8 (.iconst (-1)) 1 9 from ⟨by decide +kernel, rfl⟩) ?_
    exact J_reti (show Dc Y_X12_refusesSpeak 9 (.ireturn) 1 10 from ⟨by decide +kernel, rfl⟩) rfl (h0 _ _) (by decide) (by decide)

theorem c_X12_refusesSpeak {l : Launch} {D : ZD} {B0 : Nat} (N : Nat) (x0 : Nat) (x1 : Nat) (x2 : Int32) (g : ZS) : ∀ r, f_X12_refusesSpeak N x0 x1 x2 g = some r → zCt l D B0 yX12_refusesSpeak Y_X12_refusesSpeak [.ref x0, .ref x1, .int x2] g (some (.int r.1)) r.2 :=
  zCt_ofF (vo := fun r => some (.int r.1)) (so := fun r => r.2) (by decide +kernel) rfl (fun h => by cases h) rfl (Nat.le_of_ble_eq_true rfl) (fun X => j_X12_refusesSpeak N x0 x1 x2 g (fun _ _ h => h))

theorem j_X12_goSpeak_89 {X : ZX} (N : Nat) (x0 : Nat) (x1 : Nat) (x2 : Int32) (x3 : Int32) (x4 : Int32)   (g : ZS) {K : ((Int32 × ZS) ⊕ (Int32 × ZS)) → Prop} (h0 : ∀ v g, K (.inr (v, g)) → xK X (some (.int v)) g) (hL38 : ∀ s, K (.inl s) → zG Y_X12_goSpeak X 0 0 38 [some (.ref x0), some (.ref x1), some (.int x2), some (.int x3), some (.int s.1)] [] s.2) : J Y_X12_goSpeak X 0 0 89 [some (.ref x0), some (.ref x1), some (.int x2), some (.int x3), some (.int x4)] [] g (f_X12_goSpeak_89 N x0 x1 x2 x3 x4 g) K := by
  unfold f_X12_goSpeak_89
  refine J_iinc (1 : Int32) [some (.ref x0), some (.ref x1), some (.int x2), some (.int x3), some (.int (x4 + (1 : Int32)))] (show Dc Y_X12_goSpeak 89 (.iinc 4 1) 3 92 from ⟨by decide +kernel, rfl⟩) rfl rfl (by decide) rfl rfl ?_
  refine J_goto (tg := 38) (show Dc Y_X12_goSpeak 92 (.goto (-54)) 3 95 from ⟨by decide +kernel, rfl⟩) (by decide) ?_
  exact J_leaf (fun h => hL38 (x4 + (1 : Int32), g) h)

theorem j_X12_goSpeak_38 {X : ZX} (N : Nat) (x0 : Nat) (x1 : Nat) (x2 : Int32) (x3 : Int32) (x4 : Int32)   (g : ZS) {K : ((Int32 × ZS) ⊕ (Int32 × ZS)) → Prop} (h0 : ∀ v g, K (.inr (v, g)) → xK X (some (.int v)) g) (hL38 : ∀ s, K (.inl s) → zG Y_X12_goSpeak X 0 0 38 [some (.ref x0), some (.ref x1), some (.int x2), some (.int x3), some (.int s.1)] [] s.2) : J Y_X12_goSpeak X 0 0 38 [some (.ref x0), some (.ref x1), some (.int x2), some (.int x3), some (.int x4)] [] g (f_X12_goSpeak_38 N x0 x1 x2 x3 x4 g) K := by
  unfold f_X12_goSpeak_38
  refine J_iload rfl (show Dc Y_X12_goSpeak 38 (.iload 4) 2 40 from ⟨by decide +kernel, rfl⟩) ?_
  refine J_aload_n rfl rfl (show Dc Y_X12_goSpeak 40 (.aload_n 0) 1 41 from ⟨by decide +kernel, rfl⟩) ?_
  refine J_getI (show Dc Y_X12_goSpeak 41 (.getfield 116) 3 44 from ⟨by decide +kernel, rfl⟩) w_f_RX12_116 rfl (fun v1 => ?_)
  refine J_icmp_ge (tg := 95) (show Dc Y_X12_goSpeak 44 (.if_icmp .ge 51) 3 47 from ⟨by decide +kernel, rfl⟩) (by decide) (fun h => ?_) (fun h => ?_)
  · refine J_map (f := Sum.inr) (fun _ h => h) ?_
    refine J_iload_n rfl rfl (show Dc Y_X12_goSpeak 95 (.iload_n 3) 1 96 from ⟨by decide +kernel, rfl⟩) ?_
    exact J_reti (show Dc Y_X12_goSpeak 96 (.ireturn) 1 97 from ⟨by decide +kernel, rfl⟩) rfl (h0 _ _) (by decide) (by decide)
  · refine J_iload rfl (show Dc Y_X12_goSpeak 47 (.iload 4) 2 49 from ⟨by decide +kernel, rfl⟩) ?_
    refine J_iload_n rfl rfl (show Dc Y_X12_goSpeak 49 (.iload_n 2) 1 50 from ⟨by decide +kernel, rfl⟩) ?_
    refine J_icmp_eq (tg := 89) (show Dc Y_X12_goSpeak 50 (.if_icmp .eq 39) 3 53 from ⟨by decide +kernel, rfl⟩) (by decide) (fun h => ?_) (fun h => ?_)
    · exact j_X12_goSpeak_89 N x0 x1 x2 x3 x4 g h0 hL38
    · refine J_aload_n rfl rfl (show Dc Y_X12_goSpeak 53 (.aload_n 1) 1 54 from ⟨by decide +kernel, rfl⟩) ?_
      refine J_iload rfl (show Dc Y_X12_goSpeak 54 (.iload 4) 2 56 from ⟨by decide +kernel, rfl⟩) ?_
      refine J_iconst (1 : Int32) rfl (show Dc Y_X12_goSpeak 56 (.iconst 1) 1 57 from ⟨by decide +kernel, rfl⟩) ?_
      refine J_callSi (fun r => r) (fun _ => g) (show Dc Y_X12_goSpeak 57 (.invokestatic 179) 3 60 from ⟨by decide +kernel, rfl⟩) w_m_RX12_179 w_st_X12_of w_cw_X12_of (c_X12_of x4 (1 : Int32) g) rfl rfl (by decide) (Nat.le_of_ble_eq_true rfl) (by decide) (by decide) (fun v2 => ?_)
      refine J_iald (show Dc Y_X12_goSpeak 60 (.iaload) 1 61 from ⟨by decide +kernel, rfl⟩) (fun v3 => ?_)
      refine J_if_ne (tg := 89) (show Dc Y_X12_goSpeak 61 (.ifCond .ne 28) 3 64 from ⟨by decide +kernel, rfl⟩) (by decide) (fun h => ?_) (fun h => ?_)
      · exact j_X12_goSpeak_89 N x0 x1 x2 x3 x4 g h0 hL38
      · refine J_aload_n rfl rfl (show Dc Y_X12_goSpeak 64 (.aload_n 1) 1 65 from ⟨by decide +kernel, rfl⟩) ?_
        refine J_iload rfl (show Dc Y_X12_goSpeak 65 (.iload 4) 2 67 from ⟨by decide +kernel, rfl⟩) ?_
        refine J_iconst (0 : Int32) rfl (show Dc Y_X12_goSpeak 67 (.iconst 0) 1 68 from ⟨by decide +kernel, rfl⟩) ?_
        refine J_callSi (fun r => r) (fun _ => g) (show Dc Y_X12_goSpeak 68 (.invokestatic 179) 3 71 from ⟨by decide +kernel, rfl⟩) w_m_RX12_179 w_st_X12_of w_cw_X12_of (c_X12_of x4 (0 : Int32) g) rfl rfl (by decide) (Nat.le_of_ble_eq_true rfl) (by decide) (by decide) (fun v4 => ?_)
        refine J_iald (show Dc Y_X12_goSpeak 71 (.iaload) 1 72 from ⟨by decide +kernel, rfl⟩) (fun v5 => ?_)
        refine J_aload_n rfl rfl (show Dc Y_X12_goSpeak 72 (.aload_n 1) 1 73 from ⟨by decide +kernel, rfl⟩) ?_
        refine J_iload_n rfl rfl (show Dc Y_X12_goSpeak 73 (.iload_n 2) 1 74 from ⟨by decide +kernel, rfl⟩) ?_
        refine J_iconst (0 : Int32) rfl (show Dc Y_X12_goSpeak 74 (.iconst 0) 1 75 from ⟨by decide +kernel, rfl⟩) ?_
        refine J_callSi (fun r => r) (fun _ => g) (show Dc Y_X12_goSpeak 75 (.invokestatic 179) 3 78 from ⟨by decide +kernel, rfl⟩) w_m_RX12_179 w_st_X12_of w_cw_X12_of (c_X12_of x2 (0 : Int32) g) rfl rfl (by decide) (Nat.le_of_ble_eq_true rfl) (by decide) (by decide) (fun v6 => ?_)
        refine J_iald (show Dc Y_X12_goSpeak 78 (.iaload) 1 79 from ⟨by decide +kernel, rfl⟩) (fun v7 => ?_)
        refine J_icmp_ne (tg := 89) (show Dc Y_X12_goSpeak 79 (.if_icmp .ne 10) 3 82 from ⟨by decide +kernel, rfl⟩) (by decide) (fun h => ?_) (fun h => ?_)
        · exact j_X12_goSpeak_89 N x0 x1 x2 x3 x4 g h0 hL38
        · refine J_aload_n rfl rfl (show Dc Y_X12_goSpeak 82 (.aload_n 1) 1 83 from ⟨by decide +kernel, rfl⟩) ?_
          refine J_iload rfl (show Dc Y_X12_goSpeak 83 (.iload 4) 2 85 from ⟨by decide +kernel, rfl⟩) ?_
          refine J_iload_n rfl rfl (show Dc Y_X12_goSpeak 85 (.iload_n 3) 1 86 from ⟨by decide +kernel, rfl⟩) ?_
          refine J_callSv (fun r => r) (show Dc Y_X12_goSpeak 86 (.invokestatic 257) 3 89 from ⟨by decide +kernel, rfl⟩) w_m_RX12_257 w_st_X12_hears w_cw_X12_hears (c_X12_hears x1 x4 x3 g) rfl rfl (by decide) (Nat.le_of_ble_eq_true rfl) (by decide) (by decide) (fun g8 => ?_)
          exact j_X12_goSpeak_89 N x0 x1 x2 x3 x4 g8 h0 hL38

theorem j_X12_goSpeak {X : ZX} (N : Nat) (x0 : Nat) (x1 : Nat) (x2 : Int32)   (g : ZS) {K : (Int32 × ZS) → Prop} (h0 : ∀ v g, K (v, g) → xK X (some (.int v)) g) : J Y_X12_goSpeak X 0 0 0 [some (.ref x0), some (.ref x1), some (.int x2), none, none] [] g (f_X12_goSpeak N x0 x1 x2 g) K := by
  unfold f_X12_goSpeak
  refine J_aload_n rfl rfl (show Dc Y_X12_goSpeak 0 (.aload_n 0) 1 1 from ⟨by decide +kernel, rfl⟩) ?_
  refine J_aload_n rfl rfl (show Dc Y_X12_goSpeak 1 (.aload_n 1) 1 2 from ⟨by decide +kernel, rfl⟩) ?_
  refine J_iload_n rfl rfl (show Dc Y_X12_goSpeak 2 (.iload_n 2) 1 3 from ⟨by decide +kernel, rfl⟩) ?_
  refine J_aload_n rfl rfl (show Dc Y_X12_goSpeak 3 (.aload_n 0) 1 4 from ⟨by decide +kernel, rfl⟩) ?_
  refine J_getR (show Dc Y_X12_goSpeak 4 (.getfield 45) 3 7 from ⟨by decide +kernel, rfl⟩) w_f_RX12_45 rfl (fun v1 => ?_)
  refine J_callVi (fun r => r.1) (fun r => r.2) (show Dc Y_X12_goSpeak 7 (.invokevirtual 291) 3 10 from ⟨by decide +kernel, rfl⟩) w_m_RX12_291 w_in_X12_laySays rfl w_se_X12_laySays w_cw_X12_laySays (c_X12_laySays N x0 x1 x2 v1 g) rfl rfl (by decide) (Nat.le_of_ble_eq_true rfl) (by decide) (by decide) (fun r2 => ?_)
  refine J_pop rfl (show Dc Y_X12_goSpeak 10 (.pop) 1 11 from ⟨by decide +kernel, rfl⟩) ?_
  refine J_aload_n rfl rfl (show Dc Y_X12_goSpeak 11 (.aload_n 0) 1 12 from ⟨by decide +kernel, rfl⟩) ?_
  refine J_getR (show Dc Y_X12_goSpeak 12 (.getfield 45) 3 15 from ⟨by decide +kernel, rfl⟩) w_f_RX12_45 rfl (fun v3 => ?_)
  refine J_aload_n rfl rfl (show Dc Y_X12_goSpeak 15 (.aload_n 1) 1 16 from ⟨by decide +kernel, rfl⟩) ?_
  refine J_iload_n rfl rfl (show Dc Y_X12_goSpeak 16 (.iload_n 2) 1 17 from ⟨by decide +kernel, rfl⟩) ?_
  refine J_iconst (3 : Int32) rfl (show Dc Y_X12_goSpeak 17 (.iconst 3) 1 18 from ⟨by decide +kernel, rfl⟩) ?_
  refine J_callSi (fun r => r) (fun _ => r2.2) (show Dc Y_X12_goSpeak 18 (.invokestatic 179) 3 21 from ⟨by decide +kernel, rfl⟩) w_m_RX12_179 w_st_X12_of w_cw_X12_of (c_X12_of x2 (3 : Int32) r2.2) rfl rfl (by decide) (Nat.le_of_ble_eq_true rfl) (by decide) (by decide) (fun v4 => ?_)
  refine J_iald (show Dc Y_X12_goSpeak 21 (.iaload) 1 22 from ⟨by decide +kernel, rfl⟩) (fun v5 => ?_)
  refine J_iald (show Dc Y_X12_goSpeak 22 (.iaload) 1 23 from ⟨by decide +kernel, rfl⟩) (fun v6 => ?_)
  refine J_istore_n [some (.ref x0), some (.ref x1), some (.int x2), some (.int v6), none] (show Dc Y_X12_goSpeak 23 (.istore_n 3) 1 24 from ⟨by decide +kernel, rfl⟩) rfl (by decide) rfl rfl ?_
  refine J_aload_n rfl rfl (show Dc Y_X12_goSpeak 24 (.aload_n 1) 1 25 from ⟨by decide +kernel, rfl⟩) ?_
  refine J_iload_n rfl rfl (show Dc Y_X12_goSpeak 25 (.iload_n 2) 1 26 from ⟨by decide +kernel, rfl⟩) ?_
  refine J_iconst (3 : Int32) rfl (show Dc Y_X12_goSpeak 26 (.iconst 3) 1 27 from ⟨by decide +kernel, rfl⟩) ?_
  refine J_callSi (fun r => r) (fun _ => r2.2) (show Dc Y_X12_goSpeak 27 (.invokestatic 179) 3 30 from ⟨by decide +kernel, rfl⟩) w_m_RX12_179 w_st_X12_of w_cw_X12_of (c_X12_of x2 (3 : Int32) r2.2) rfl rfl (by decide) (Nat.le_of_ble_eq_true rfl) (by decide) (by decide) (fun v7 => ?_)
  refine J_dup2 rfl rfl (show Dc Y_X12_goSpeak 30 (.dup2) 1 31 from ⟨by decide +kernel, rfl⟩) ?_
  refine J_iald (show Dc Y_X12_goSpeak 31 (.iaload) 1 32 from ⟨by decide +kernel, rfl⟩) (fun v8 => ?_)
  refine J_iconst (1 : Int32) rfl (show Dc Y_X12_goSpeak 32 (.iconst 1) 1 33 from ⟨by decide +kernel, rfl⟩) ?_
  refine J_iadd (show Dc Y_X12_goSpeak 33 (.iadd) 1 34 from ⟨by decide +kernel, rfl⟩) ?_
  refine J_iast (show Dc Y_X12_goSpeak 34 (.iastore) 1 35 from ⟨by decide +kernel, rfl⟩) (fun g9 => ?_)
  refine J_iconst (0 : Int32) rfl (show Dc Y_X12_goSpeak 35 (.iconst 0) 1 36 from ⟨by decide +kernel, rfl⟩) ?_
  refine J_istore [some (.ref x0), some (.ref x1), some (.int x2), some (.int v6), some (.int (0 : Int32))] (show Dc Y_X12_goSpeak 36 (.istore 4) 2 38 from ⟨by decide +kernel, rfl⟩) (by decide) rfl rfl ?_
  exact J_loop (X := X) (K := K) (uc := fun _ => 0) (us := fun _ => 0) (lf := fun s => [some (.ref x0), some (.ref x1), some (.int x2), some (.int v6), some (.int s.1)]) (gf := fun s => s.2) (fun s => j_X12_goSpeak_38 (K := zKl Y_X12_goSpeak X 38 (fun _ => 0) (fun _ => 0) (fun s => [some (.ref x0), some (.ref x1), some (.int x2), some (.int v6), some (.int s.1)]) (fun s => s.2) K) N x0 x1 x2 v6 s.1 s.2 h0 (fun s h => h)) N ((0 : Int32), g9)

theorem c_X12_goSpeak {l : Launch} {D : ZD} {B0 : Nat} (N : Nat) (x0 : Nat) (x1 : Nat) (x2 : Int32) (g : ZS) : ∀ r, f_X12_goSpeak N x0 x1 x2 g = some r → zCt l D B0 yX12_goSpeak Y_X12_goSpeak [.ref x0, .ref x1, .int x2] g (some (.int r.1)) r.2 :=
  zCt_ofF (vo := fun r => some (.int r.1)) (so := fun r => r.2) (by decide +kernel) rfl (fun h => by cases h) rfl (Nat.le_of_ble_eq_true rfl) (fun X => j_X12_goSpeak N x0 x1 x2 g (fun _ _ h => h))

theorem j_X12_speak {X : ZX} (N : Nat) (x0 : Nat) (x1 : Int32)   (g : ZS) {K : (Int32 × ZS) → Prop} (h0 : ∀ v g, K (v, g) → xK X (some (.int v)) g) : J Y_X12_speak X 0 0 0 [some (.ref x0), some (.int x1), none] [] g (f_X12_speak N x0 x1 g) K := by
  unfold f_X12_speak
  refine J_aload_n rfl rfl (show Dc Y_X12_speak 0 (.aload_n 0) 1 1 from ⟨by decide +kernel, rfl⟩) ?_
  refine J_iconst (0 : Int32) rfl (show Dc Y_X12_speak 1 (.iconst 0) 1 2 from ⟨by decide +kernel, rfl⟩) ?_
  refine J_putI (show Dc Y_X12_speak 2 (.putfield 109) 3 5 from ⟨by decide +kernel, rfl⟩) w_f_RX12_109 rfl rfl (fun g1 => ?_) (fun h => by cases h)
  refine J_aload_n rfl rfl (show Dc Y_X12_speak 5 (.aload_n 0) 1 6 from ⟨by decide +kernel, rfl⟩) ?_
  refine J_aload_n rfl rfl (show Dc Y_X12_speak 6 (.aload_n 0) 1 7 from ⟨by decide +kernel, rfl⟩) ?_
  refine J_getR (show Dc Y_X12_speak 7 (.getfield 9) 3 10 from ⟨by decide +kernel, rfl⟩) w_f_RX12_9 rfl (fun v2 => ?_)
  refine J_iload_n rfl rfl (show Dc Y_X12_speak 10 (.iload_n 1) 1 11 from ⟨by decide +kernel, rfl⟩) ?_
  refine J_callVi (fun r => r.1) (fun r => r.2) (show Dc Y_X12_speak 11 (.invokevirtual 295) 3 14 from ⟨by decide +kernel, rfl⟩) w_m_RX12_295 w_in_X12_refusesSpeak rfl w_se_X12_refusesSpeak w_cw_X12_refusesSpeak (c_X12_refusesSpeak N x0 v2 x1 g1) rfl rfl (by decide) (Nat.le_of_ble_eq_true rfl) (by decide) (by decide) (fun r3 => ?_)
  refine J_istore_n [some (.ref x0), some (.int x1), some (.int r3.1)] (show Dc Y_X12_speak 14 (.istore_n 2) 1 15 from ⟨by decide +kernel, rfl⟩) rfl (by decide) rfl rfl ?_
  refine J_iload_n rfl rfl (show Dc Y_X12_speak 15 (.iload_n 2) 1 16 from ⟨by decide +kernel, rfl⟩) ?_
  refine J_if_ge (tg := 21) (show Dc Y_X12_speak 16 (.ifCond .ge 5) 3 19 from ⟨by decide +kernel, rfl⟩) (by decide) (fun h => ?_) (fun h => ?_)
  · refine J_aload_n rfl rfl (show Dc Y_X12_speak 21 (.aload_n 0) 1 22 from ⟨by decide +kernel, rfl⟩) ?_
    refine J_aload_n rfl rfl (show Dc Y_X12_speak 22 (.aload_n 0) 1 23 from ⟨by decide +kernel, rfl⟩) ?_
    refine J_getR (show Dc Y_X12_speak 23 (.getfield 9) 3 26 from ⟨by decide +kernel, rfl⟩) w_f_RX12_9 rfl (fun v4 => ?_)
    refine J_callVv (fun r => r) (show Dc Y_X12_speak 26 (.invokevirtual 261) 3 29 from ⟨by decide +kernel, rfl⟩) w_m_RX12_261 w_in_X12_remember rfl w_se_X12_remember w_cw_X12_remember (c_X12_remember N x0 v4 r3.2) rfl rfl (by decide) (Nat.le_of_ble_eq_true rfl) (by decide) (by decide) (fun g5 => ?_)
    refine J_aload_n rfl rfl (show Dc Y_X12_speak 29 (.aload_n 0) 1 30 from ⟨by decide +kernel, rfl⟩) ?_
    refine J_aload_n rfl rfl (show Dc Y_X12_speak 30 (.aload_n 0) 1 31 from ⟨by decide +kernel, rfl⟩) ?_
    refine J_getR (show Dc Y_X12_speak 31 (.getfield 9) 3 34 from ⟨by decide +kernel, rfl⟩) w_f_RX12_9 rfl (fun v6 => ?_)
    refine J_iload_n rfl rfl (show Dc Y_X12_speak 34 (.iload_n 1) 1 35 from ⟨by decide +kernel, rfl⟩) ?_
    refine J_callVi (fun r => r.1) (fun r => r.2) (show Dc Y_X12_speak 35 (.invokevirtual 298) 3 38 from ⟨by decide +kernel, rfl⟩) w_m_RX12_298 w_in_X12_goSpeak rfl w_se_X12_goSpeak w_cw_X12_goSpeak (c_X12_goSpeak N x0 v6 x1 g5) rfl rfl (by decide) (Nat.le_of_ble_eq_true rfl) (by decide) (by decide) (fun r7 => ?_)
    exact J_reti (show Dc Y_X12_speak 38 (.ireturn) 1 39 from ⟨by decide +kernel, rfl⟩) rfl (h0 _ _) (by decide) (by decide)
  · refine J_iload_n rfl rfl (show Dc Y_X12_speak 19 (.iload_n 2) 1 20 from ⟨by decide +kernel, rfl⟩) ?_
    exact J_reti (show Dc Y_X12_speak 20 (.ireturn) 1 21 from ⟨by decide +kernel, rfl⟩) rfl (h0 _ _) (by decide) (by decide)

theorem c_X12_speak {l : Launch} {D : ZD} {B0 : Nat} (N : Nat) (x0 : Nat) (x1 : Int32) (g : ZS) : ∀ r, f_X12_speak N x0 x1 g = some r → zCt l D B0 yX12_speak Y_X12_speak [.ref x0, .int x1] g (some (.int r.1)) r.2 :=
  zCt_ofF (vo := fun r => some (.int r.1)) (so := fun r => r.2) (by decide +kernel) rfl (fun h => by cases h) rfl (Nat.le_of_ble_eq_true rfl) (fun X => j_X12_speak N x0 x1 g (fun _ _ h => h))

theorem j_X12_act {X : ZX} (N : Nat) (x0 : Nat) (x1 : Int32) (x2 : Int32) (x3 : Int32)   (g : ZS) {K : (Int32 × ZS) → Prop} (h0 : ∀ v g, K (v, g) → xK X (some (.int v)) g) : J Y_X12_act X 0 0 0 [some (.ref x0), some (.int x1), some (.int x2), some (.int x3)] [] g (f_X12_act N x0 x1 x2 x3 g) K := by
  unfold f_X12_act
  refine J_iload_n rfl rfl (show Dc Y_X12_act 0 (.iload_n 1) 1 1 from ⟨by decide +kernel, rfl⟩) ?_
  refine J_lsw (tgd := 174) [((100 : Int32), 52, _), ((107 : Int32), 87, _), ((109 : Int32), 63, _), ((115 : Int32), 148, _), ((116 : Int32), 121, _)] (show Dc Y_X12_act 1 (.lookupswitch 173 #[(100, 51), (107, 86), (109, 62), (115, 147), (116, 120)]) 51 52 from ⟨by decide +kernel, rfl⟩) (by decide) (by simp only [List.map_cons, List.map_nil]; decide +kernel) (by decide) ?_ ?_
  · refine List.forall_mem_cons.mpr ⟨?_, List.forall_mem_cons.mpr ⟨?_, List.forall_mem_cons.mpr ⟨?_, List.forall_mem_cons.mpr ⟨?_, List.forall_mem_cons.mpr ⟨?_, fun _ h => absurd h List.not_mem_nil⟩⟩⟩⟩⟩
    · refine J_aload_n rfl rfl (show Dc Y_X12_act 52 (.aload_n 0) 1 53 from ⟨by decide +kernel, rfl⟩) ?_
      refine J_aload_n rfl rfl (show Dc Y_X12_act 53 (.aload_n 0) 1 54 from ⟨by decide +kernel, rfl⟩) ?_
      refine J_getR (show Dc Y_X12_act 54 (.getfield 9) 3 57 from ⟨by decide +kernel, rfl⟩) w_f_RX12_9 rfl (fun v1 => ?_)
      refine J_iload_n rfl rfl (show Dc Y_X12_act 57 (.iload_n 2) 1 58 from ⟨by decide +kernel, rfl⟩) ?_
      refine J_callVv (fun r => r) (show Dc Y_X12_act 58 (.invokevirtual 265) 3 61 from ⟨by decide +kernel, rfl⟩) w_m_RX12_265 w_in_X12_goDays rfl w_se_X12_goDays w_cw_X12_goDays (c_X12_goDays N x0 v1 x2 g) rfl rfl (by decide) (Nat.le_of_ble_eq_true rfl) (by decide) (by decide) (fun g2 => ?_)
      refine J_iconst (1 : Int32) rfl (show Dc Y_X12_act 61 (.iconst 1) 1 62 from ⟨by decide +kernel, rfl⟩) ?_
      exact J_retz rfl (show Dc Y_X12_act 62 (.ireturn) 1 63 from ⟨by decide +kernel, rfl⟩) rfl (h0 _ _) (by decide) (by decide)
    · refine J_aload_n rfl rfl (show Dc Y_X12_act 87 (.aload_n 0) 1 88 from ⟨by decide +kernel, rfl⟩) ?_
      refine J_iload_n rfl rfl (show Dc Y_X12_act 88 (.iload_n 2) 1 89 from ⟨by decide +kernel, rfl⟩) ?_
      refine J_callVi (fun r => r) (fun _ => g) (show Dc Y_X12_act 89 (.invokevirtual 234) 3 92 from ⟨by decide +kernel, rfl⟩) w_m_RX12_234 w_in_X12_isParrot rfl w_se_X12_isParrot w_cw_X12_isParrot (c_X12_isParrot x0 x2 g) rfl rfl (by decide) (Nat.le_of_ble_eq_true rfl) (by decide) (by decide) (fun v3 => ?_)
      refine J_if_ne (tg := 97) (show Dc Y_X12_act 92 (.ifCond .ne 5) 3 95 from ⟨by decide +kernel, rfl⟩) (by decide) (fun h => ?_) (fun h => ?_)
      · refine J_aload_n rfl rfl (show Dc Y_X12_act 97 (.aload_n 0) 1 98 from ⟨by decide +kernel, rfl⟩) ?_
        refine J_getR (show Dc Y_X12_act 98 (.getfield 9) 3 101 from ⟨by decide +kernel, rfl⟩) w_f_RX12_9 rfl (fun v4 => ?_)
        refine J_iload_n rfl rfl (show Dc Y_X12_act 101 (.iload_n 2) 1 102 from ⟨by decide +kernel, rfl⟩) ?_
        refine J_iconst (1 : Int32) rfl (show Dc Y_X12_act 102 (.iconst 1) 1 103 from ⟨by decide +kernel, rfl⟩) ?_
        refine J_callSi (fun r => r) (fun _ => g) (show Dc Y_X12_act 103 (.invokestatic 179) 3 106 from ⟨by decide +kernel, rfl⟩) w_m_RX12_179 w_st_X12_of w_cw_X12_of (c_X12_of x2 (1 : Int32) g) rfl rfl (by decide) (Nat.le_of_ble_eq_true rfl) (by decide) (by decide) (fun v5 => ?_)
        refine J_iconst (1 : Int32) rfl (show Dc Y_X12_act 106 (.iconst 1) 1 107 from ⟨by decide +kernel, rfl⟩) ?_
        refine J_aload_n rfl rfl (show Dc Y_X12_act 107 (.aload_n 0) 1 108 from ⟨by decide +kernel, rfl⟩) ?_
        refine J_getR (show Dc Y_X12_act 108 (.getfield 9) 3 111 from ⟨by decide +kernel, rfl⟩) w_f_RX12_9 rfl (fun v6 => ?_)
        refine J_iload_n rfl rfl (show Dc Y_X12_act 111 (.iload_n 2) 1 112 from ⟨by decide +kernel, rfl⟩) ?_
        refine J_iconst (1 : Int32) rfl (show Dc Y_X12_act 112 (.iconst 1) 1 113 from ⟨by decide +kernel, rfl⟩) ?_
        refine J_callSi (fun r => r) (fun _ => g) (show Dc Y_X12_act 113 (.invokestatic 179) 3 116 from ⟨by decide +kernel, rfl⟩) w_m_RX12_179 w_st_X12_of w_cw_X12_of (c_X12_of x2 (1 : Int32) g) rfl rfl (by decide) (Nat.le_of_ble_eq_true rfl) (by decide) (by decide) (fun v7 => ?_)
        refine J_iald (show Dc Y_X12_act 116 (.iaload) 1 117 from ⟨by decide +kernel, rfl⟩) (fun v8 => ?_)
        refine J_isub (show Dc Y_X12_act 117 (.isub) 1 118 from ⟨by decide +kernel, rfl⟩) ?_
        refine J_iast (show Dc Y_X12_act 118 (.iastore) 1 119 from ⟨by decide +kernel, rfl⟩) (fun g9 => ?_)
        refine J_iconst (1 : Int32) rfl (show Dc Y_X12_act 119 (.iconst 1) 1 120 from ⟨by decide +kernel, rfl⟩) ?_
        exact J_retz rfl (show Dc Y_X12_act 120 (.ireturn) 1 121 from ⟨by decide +kernel, rfl⟩) rfl (h0 _ _) (by decide) (by decide)
      · refine J_iconst (0 : Int32) rfl (show Dc Y_X12_act 95 (.iconst 0) 1 96 from ⟨by decide +kernel, rfl⟩) ?_
        exact J_retz rfl (show Dc Y_X12_act 96 (.ireturn) 1 97 from ⟨by decide +kernel, rfl⟩) rfl (h0 _ _) (by decide) (by decide)
    · refine J_aload_n rfl rfl (show Dc Y_X12_act 63 (.aload_n 0) 1 64 from ⟨by decide +kernel, rfl⟩) ?_
      refine J_iload_n rfl rfl (show Dc Y_X12_act 64 (.iload_n 2) 1 65 from ⟨by decide +kernel, rfl⟩) ?_
      refine J_iload_n rfl rfl (show Dc Y_X12_act 65 (.iload_n 3) 1 66 from ⟨by decide +kernel, rfl⟩) ?_
      refine J_callVi (fun r => r) (fun _ => g) (show Dc Y_X12_act 66 (.invokevirtual 278) 3 69 from ⟨by decide +kernel, rfl⟩) w_m_RX12_278 w_in_X12_refusesMove rfl w_se_X12_refusesMove w_cw_X12_refusesMove (c_X12_refusesMove x0 x2 x3 g) rfl rfl (by decide) (Nat.le_of_ble_eq_true rfl) (by decide) (by decide) (fun v10 => ?_)
      refine J_if_ge (tg := 74) (show Dc Y_X12_act 69 (.ifCond .ge 5) 3 72 from ⟨by decide +kernel, rfl⟩) (by decide) (fun h => ?_) (fun h => ?_)
      · refine J_aload_n rfl rfl (show Dc Y_X12_act 74 (.aload_n 0) 1 75 from ⟨by decide +kernel, rfl⟩) ?_
        refine J_getR (show Dc Y_X12_act 75 (.getfield 9) 3 78 from ⟨by decide +kernel, rfl⟩) w_f_RX12_9 rfl (fun v11 => ?_)
        refine J_iload_n rfl rfl (show Dc Y_X12_act 78 (.iload_n 2) 1 79 from ⟨by decide +kernel, rfl⟩) ?_
        refine J_iconst (0 : Int32) rfl (show Dc Y_X12_act 79 (.iconst 0) 1 80 from ⟨by decide +kernel, rfl⟩) ?_
        refine J_callSi (fun r => r) (fun _ => g) (show Dc Y_X12_act 80 (.invokestatic 179) 3 83 from ⟨by decide +kernel, rfl⟩) w_m_RX12_179 w_st_X12_of w_cw_X12_of (c_X12_of x2 (0 : Int32) g) rfl rfl (by decide) (Nat.le_of_ble_eq_true rfl) (by decide) (by decide) (fun v12 => ?_)
        refine J_iload_n rfl rfl (show Dc Y_X12_act 83 (.iload_n 3) 1 84 from ⟨by decide +kernel, rfl⟩) ?_
        refine J_iast (show Dc Y_X12_act 84 (.iastore) 1 85 from ⟨by decide +kernel, rfl⟩) (fun g13 => ?_)
        refine J_iconst (1 : Int32) rfl (show Dc Y_X12_act 85 (.iconst 1) 1 86 from ⟨by decide +kernel, rfl⟩) ?_
        exact J_retz rfl (show Dc Y_X12_act 86 (.ireturn) 1 87 from ⟨by decide +kernel, rfl⟩) rfl (h0 _ _) (by decide) (by decide)
      · refine J_iconst (0 : Int32) rfl (show Dc Y_X12_act 72 (.iconst 0) 1 73 from ⟨by decide +kernel, rfl⟩) ?_
        exact J_retz rfl (show Dc Y_X12_act 73 (.ireturn) 1 74 from ⟨by decide +kernel, rfl⟩) rfl (h0 _ _) (by decide) (by decide)
    · refine J_aload_n rfl rfl (show Dc Y_X12_act 148 (.aload_n 0) 1 149 from ⟨by decide +kernel, rfl⟩) ?_
      refine J_aload_n rfl rfl (show Dc Y_X12_act 149 (.aload_n 0) 1 150 from ⟨by decide +kernel, rfl⟩) ?_
      refine J_getR (show Dc Y_X12_act 150 (.getfield 9) 3 153 from ⟨by decide +kernel, rfl⟩) w_f_RX12_9 rfl (fun v14 => ?_)
      refine J_iload_n rfl rfl (show Dc Y_X12_act 153 (.iload_n 2) 1 154 from ⟨by decide +kernel, rfl⟩) ?_
      refine J_callVi (fun r => r.1) (fun r => r.2) (show Dc Y_X12_act 154 (.invokevirtual 295) 3 157 from ⟨by decide +kernel, rfl⟩) w_m_RX12_295 w_in_X12_refusesSpeak rfl w_se_X12_refusesSpeak w_cw_X12_refusesSpeak (c_X12_refusesSpeak N x0 v14 x2 g) rfl rfl (by decide) (Nat.le_of_ble_eq_true rfl) (by decide) (by decide) (fun r15 => ?_)
      refine J_if_ge (tg := 162) (show Dc Y_X12_act 157 (.ifCond .ge 5) 3 160 from ⟨by decide +kernel, rfl⟩) (by decide) (fun h => ?_) (fun h => ?_)
      · refine J_aload_n rfl rfl (show Dc Y_X12_act 162 (.aload_n 0) 1 163 from ⟨by decide +kernel, rfl⟩) ?_
        refine J_aload_n rfl rfl (show Dc Y_X12_act 163 (.aload_n 0) 1 164 from ⟨by decide +kernel, rfl⟩) ?_
        refine J_getR (show Dc Y_X12_act 164 (.getfield 9) 3 167 from ⟨by decide +kernel, rfl⟩) w_f_RX12_9 rfl (fun v16 => ?_)
        refine J_iload_n rfl rfl (show Dc Y_X12_act 167 (.iload_n 2) 1 168 from ⟨by decide +kernel, rfl⟩) ?_
        refine J_callVi (fun r => r.1) (fun r => r.2) (show Dc Y_X12_act 168 (.invokevirtual 298) 3 171 from ⟨by decide +kernel, rfl⟩) w_m_RX12_298 w_in_X12_goSpeak rfl w_se_X12_goSpeak w_cw_X12_goSpeak (c_X12_goSpeak N x0 v16 x2 r15.2) rfl rfl (by decide) (Nat.le_of_ble_eq_true rfl) (by decide) (by decide) (fun r17 => ?_)
        refine J_pop rfl (show Dc Y_X12_act 171 (.pop) 1 172 from ⟨by decide +kernel, rfl⟩) ?_
        refine J_iconst (1 : Int32) rfl (show Dc Y_X12_act 172 (.iconst 1) 1 173 from ⟨by decide +kernel, rfl⟩) ?_
        exact J_retz rfl (show Dc Y_X12_act 173 (.ireturn) 1 174 from ⟨by decide +kernel, rfl⟩) rfl (h0 _ _) (by decide) (by decide)
      · refine J_iconst (0 : Int32) rfl (show Dc Y_X12_act 160 (.iconst 0) 1 161 from ⟨by decide +kernel, rfl⟩) ?_
        exact J_retz rfl (show Dc Y_X12_act 161 (.ireturn) 1 162 from ⟨by decide +kernel, rfl⟩) rfl (h0 _ _) (by decide) (by decide)
    · refine J_aload_n rfl rfl (show Dc Y_X12_act 121 (.aload_n 0) 1 122 from ⟨by decide +kernel, rfl⟩) ?_
      refine J_aload_n rfl rfl (show Dc Y_X12_act 122 (.aload_n 0) 1 123 from ⟨by decide +kernel, rfl⟩) ?_
      refine J_getR (show Dc Y_X12_act 123 (.getfield 9) 3 126 from ⟨by decide +kernel, rfl⟩) w_f_RX12_9 rfl (fun v18 => ?_)
      refine J_iload_n rfl rfl (show Dc Y_X12_act 126 (.iload_n 2) 1 127 from ⟨by decide +kernel, rfl⟩) ?_
      refine J_iload_n rfl rfl (show Dc Y_X12_act 127 (.iload_n 3) 1 128 from ⟨by decide +kernel, rfl⟩) ?_
      refine J_callVi (fun r => r) (fun _ => g) (show Dc Y_X12_act 128 (.invokevirtual 284) 3 131 from ⟨by decide +kernel, rfl⟩) w_m_RX12_284 w_in_X12_refusesTeach rfl w_se_X12_refusesTeach w_cw_X12_refusesTeach (c_X12_refusesTeach x0 v18 x2 x3 g) rfl rfl (by decide) (Nat.le_of_ble_eq_true rfl) (by decide) (by decide) (fun v19 => ?_)
      refine J_if_ge (tg := 136) (show Dc Y_X12_act 131 (.ifCond .ge 5) 3 134 from ⟨by decide +kernel, rfl⟩) (by decide) (fun h => ?_) (fun h => ?_)
      · refine J_aload_n rfl rfl (show Dc Y_X12_act 136 (.aload_n 0) 1 137 from ⟨by decide +kernel, rfl⟩) ?_
        refine J_getR (show Dc Y_X12_act 137 (.getfield 9) 3 140 from ⟨by decide +kernel, rfl⟩) w_f_RX12_9 rfl (fun v20 => ?_)
        refine J_iload_n rfl rfl (show Dc Y_X12_act 140 (.iload_n 2) 1 141 from ⟨by decide +kernel, rfl⟩) ?_
        refine J_iload_n rfl rfl (show Dc Y_X12_act 141 (.iload_n 3) 1 142 from ⟨by decide +kernel, rfl⟩) ?_
        refine J_iconst (1 : Int32) rfl (show Dc Y_X12_act 142 (.iconst 1) 1 143 from ⟨by decide +kernel, rfl⟩) ?_
        refine J_callSv (fun r => r) (show Dc Y_X12_act 143 (.invokestatic 287) 3 146 from ⟨by decide +kernel, rfl⟩) w_m_RX12_287 w_st_X12_goTeach w_cw_X12_goTeach (c_X12_goTeach v20 x2 x3 (1 : Int32) g) rfl rfl (by decide) (Nat.le_of_ble_eq_true rfl) (by decide) (by decide) (fun g21 => ?_)
        refine J_iconst (1 : Int32) rfl (show Dc Y_X12_act 146 (.iconst 1) 1 147 from ⟨by decide +kernel, rfl⟩) ?_
        exact J_retz rfl (show Dc Y_X12_act 147 (.ireturn) 1 148 from ⟨by decide +kernel, rfl⟩) rfl (h0 _ _) (by decide) (by decide)
      · refine J_iconst (0 : Int32) rfl (show Dc Y_X12_act 134 (.iconst 0) 1 135 from ⟨by decide +kernel, rfl⟩) ?_
        exact J_retz rfl (show Dc Y_X12_act 135 (.ireturn) 1 136 from ⟨by decide +kernel, rfl⟩) rfl (h0 _ _) (by decide) (by decide)
  · refine J_aload_n rfl rfl (show Dc Y_X12_act 174 (.aload_n 0) 1 175 from ⟨by decide +kernel, rfl⟩) ?_
    refine J_callVv (fun r => r) (show Dc Y_X12_act 175 (.invokevirtual 304) 3 178 from ⟨by decide +kernel, rfl⟩) w_m_RX12_304 w_in_X12_goHush rfl w_se_X12_goHush w_cw_X12_goHush (c_X12_goHush N x0 g) rfl rfl (by decide) (Nat.le_of_ble_eq_true rfl) (by decide) (by decide) (fun g22 => ?_)
    refine J_iconst (1 : Int32) rfl (show Dc Y_X12_act 178 (.iconst 1) 1 179 from ⟨by decide +kernel, rfl⟩) ?_
    exact J_retz rfl (show Dc Y_X12_act 179 (.ireturn) 1 180 from ⟨by decide +kernel, rfl⟩) rfl (h0 _ _) (by decide) (by decide)

theorem c_X12_act {l : Launch} {D : ZD} {B0 : Nat} (N : Nat) (x0 : Nat) (x1 : Int32) (x2 : Int32) (x3 : Int32) (g : ZS) : ∀ r, f_X12_act N x0 x1 x2 x3 g = some r → zCt l D B0 yX12_act Y_X12_act [.ref x0, .int x1, .int x2, .int x3] g (some (.int r.1)) r.2 :=
  zCt_ofF (vo := fun r => some (.int r.1)) (so := fun r => r.2) (by decide +kernel) rfl (fun h => by cases h) rfl (Nat.le_of_ble_eq_true rfl) (fun X => j_X12_act N x0 x1 x2 x3 g (fun _ _ h => h))

theorem j_X12_trial_146 {X : ZX} (N : Nat) (x0 : Nat) (x2 : Int32) (s0 : Nat) (s1 : Int64)  (g : ZS) {K : (Int32 × ZS) → Prop} (h0 : ∀ v g, K (v, g) → xK X (some (.int v)) g) : J Y_X12_trial X 0 0 146 [some (.ref x0), none, some (.int x2)] [.long s1, .ref s0] g (f_X12_trial_146 N x0 x2 s0 s1 g) K := by
  unfold f_X12_trial_146
  refine J_callVv (fun r => r) (show Dc Y_X12_trial 146 (.invokevirtual 274) 3 149 from ⟨by decide +kernel, rfl⟩) w_m_RX12_274 w_in_X12_tell rfl w_se_X12_tell w_cw_X12_tell (c_X12_tell s0 s1 g) rfl rfl (by decide) (Nat.le_of_ble_eq_true rfl) (by decide) (by decide) (fun g1 => ?_)
  refine J_aload_n rfl rfl (show Dc Y_X12_trial 149 (.aload_n 0) 1 150 from ⟨by decide +kernel, rfl⟩) ?_
  refine J_aload_n rfl rfl (show Dc Y_X12_trial 150 (.aload_n 0) 1 151 from ⟨by decide +kernel, rfl⟩) ?_
  refine J_getR (show Dc Y_X12_trial 151 (.getfield 9) 3 154 from ⟨by decide +kernel, rfl⟩) w_f_RX12_9 rfl (fun v2 => ?_)
  refine J_sipush (216 : Int32) rfl (show Dc Y_X12_trial 154 (.sipush 216) 3 157 from ⟨by decide +kernel, rfl⟩) ?_
  refine J_iald (show Dc Y_X12_trial 157 (.iaload) 1 158 from ⟨by decide +kernel, rfl⟩) (fun v3 => ?_)
  refine J_i2l (show Dc Y_X12_trial 158 (.i2l) 1 159 from ⟨by decide +kernel, rfl⟩) ?_
  refine J_callVv (fun r => r) (show Dc Y_X12_trial 159 (.invokevirtual 274) 3 162 from ⟨by decide +kernel, rfl⟩) w_m_RX12_274 w_in_X12_tell rfl w_se_X12_tell w_cw_X12_tell (c_X12_tell x0 v3.toInt64 g1) rfl rfl (by decide) (Nat.le_of_ble_eq_true rfl) (by decide) (by decide) (fun g4 => ?_)
  refine J_iload_n rfl rfl (show Dc Y_X12_trial 162 (.iload_n 2) 1 163 from ⟨by decide +kernel, rfl⟩) ?_
  exact J_reti (show Dc Y_X12_trial 163 (.ireturn) 1 164 from ⟨by decide +kernel, rfl⟩) rfl (h0 _ _) (by decide) (by decide)

theorem j_X12_trial_130 {X : ZX} (N : Nat) (x0 : Nat) (x1 : Int32) (x2 : Int32)   (g : ZS) {K : (Int32 × ZS) → Prop} (h0 : ∀ v g, K (v, g) → xK X (some (.int v)) g) : J Y_X12_trial X 0 0 130 [some (.ref x0), some (.int x1), some (.int x2)] [] g (f_X12_trial_130 N x0 x1 x2 g) K := by
  unfold f_X12_trial_130
  refine J_aload_n rfl rfl (show Dc Y_X12_trial 130 (.aload_n 0) 1 131 from ⟨by decide +kernel, rfl⟩) ?_
  refine J_iconst (0 : Int32) rfl (show Dc Y_X12_trial 131 (.iconst 0) 1 132 from ⟨by decide +kernel, rfl⟩) ?_
  refine J_putI (show Dc Y_X12_trial 132 (.putfield 113) 3 135 from ⟨by decide +kernel, rfl⟩) w_f_RX12_113 rfl rfl (fun g1 => ?_) (fun h => by cases h)
  refine J_aload_n rfl rfl (show Dc Y_X12_trial 135 (.aload_n 0) 1 136 from ⟨by decide +kernel, rfl⟩) ?_
  refine J_iload_n rfl rfl (show Dc Y_X12_trial 136 (.iload_n 2) 1 137 from ⟨by decide +kernel, rfl⟩) ?_
  refine J_iload_n rfl rfl (show Dc Y_X12_trial 137 (.iload_n 1) 1 138 from ⟨by decide +kernel, rfl⟩) ?_
  refine J_icmp_ge (tg := 145) (show Dc Y_X12_trial 138 (.if_icmp .ge 7) 3 141 from ⟨by decide +kernel, rfl⟩) (by decide) (fun h => ?_) (fun h => ?_)
  · refine J_lconst (0 : Int64) rfl (show Dc Y_X12_trial 145 (.lconst 0) 1 146 from ⟨by decide +kernel, rfl⟩) ?_
    refine J_mask [true, false, true] ?_
    exact j_X12_trial_146 N x0 x2 x0 (0 : Int64) g1 h0
  · refine J_lconst (1 : Int64) rfl (show Dc Y_X12_trial 141 (.lconst 1) 1 142 from ⟨by decide +kernel, rfl⟩) ?_
    refine J_goto (tg := 146) (show Dc Y_X12_trial 142 (.goto 4) 3 145 from ⟨by decide +kernel, rfl⟩) (by decide) ?_
    refine J_mask [true, false, true] ?_
    exact j_X12_trial_146 N x0 x2 x0 (1 : Int64) g1 h0

theorem j_X12_trial_118 {X : ZX} (N : Nat) (x0 : Nat) (x1 : Int32) (x2 : Int32)   (g : ZS) {K : (Int32 × ZS) → Prop} (h0 : ∀ v g, K (v, g) → xK X (some (.int v)) g) : J Y_X12_trial X 0 0 118 [some (.ref x0), some (.int x1), some (.int x2)] [] g (f_X12_trial_118 N x0 x1 x2 g) K := by
  unfold f_X12_trial_118
  refine J_iload_n rfl rfl (show Dc Y_X12_trial 118 (.iload_n 2) 1 119 from ⟨by decide +kernel, rfl⟩) ?_
  refine J_if_le (tg := 130) (show Dc Y_X12_trial 119 (.ifCond .le 11) 3 122 from ⟨by decide +kernel, rfl⟩) (by decide) (fun h => ?_) (fun h => ?_)
  · exact j_X12_trial_130 N x0 x1 x2 g h0
  · refine J_aload_n rfl rfl (show Dc Y_X12_trial 122 (.aload_n 0) 1 123 from ⟨by decide +kernel, rfl⟩) ?_
    refine J_aload_n rfl rfl (show Dc Y_X12_trial 123 (.aload_n 0) 1 124 from ⟨by decide +kernel, rfl⟩) ?_
    refine J_getR (show Dc Y_X12_trial 124 (.getfield 57) 3 127 from ⟨by decide +kernel, rfl⟩) w_f_RX12_57 rfl (fun v1 => ?_)
    refine J_callVv (fun r => r) (show Dc Y_X12_trial 127 (.invokevirtual 261) 3 130 from ⟨by decide +kernel, rfl⟩) w_m_RX12_261 w_in_X12_remember rfl w_se_X12_remember w_cw_X12_remember (c_X12_remember N x0 v1 g) rfl rfl (by decide) (Nat.le_of_ble_eq_true rfl) (by decide) (by decide) (fun g2 => ?_)
    exact j_X12_trial_130 N x0 x1 x2 g2 h0

theorem j_X12_trial_72 {X : ZX} (N : Nat) (x0 : Nat) (x1 : Int32) (x2 : Int32)   (g : ZS) {K : ((Int32 × ZS) ⊕ (Int32 × ZS)) → Prop} (h0 : ∀ v g, K (.inr (v, g)) → xK X (some (.int v)) g) (hL72 : ∀ s, K (.inl s) → zG Y_X12_trial X 0 0 72 [some (.ref x0), some (.int x1), some (.int s.1)] [] s.2) : J Y_X12_trial X 0 0 72 [some (.ref x0), some (.int x1), some (.int x2)] [] g (f_X12_trial_72 N x0 x1 x2 g) K := by
  unfold f_X12_trial_72
  refine J_iload_n rfl rfl (show Dc Y_X12_trial 72 (.iload_n 2) 1 73 from ⟨by decide +kernel, rfl⟩) ?_
  refine J_iload_n rfl rfl (show Dc Y_X12_trial 73 (.iload_n 1) 1 74 from ⟨by decide +kernel, rfl⟩) ?_
  refine J_icmp_ge (tg := 118) (show Dc Y_X12_trial 74 (.if_icmp .ge 44) 3 77 from ⟨by decide +kernel, rfl⟩) (by decide) (fun h => ?_) (fun h => ?_)
  · refine J_map (f := Sum.inr) (fun _ h => h) ?_
    exact j_X12_trial_118 (K := fun o => K (.inr o)) N x0 x1 x2 g h0
  · refine J_aload_n rfl rfl (show Dc Y_X12_trial 77 (.aload_n 0) 1 78 from ⟨by decide +kernel, rfl⟩) ?_
    refine J_aload_n rfl rfl (show Dc Y_X12_trial 78 (.aload_n 0) 1 79 from ⟨by decide +kernel, rfl⟩) ?_
    refine J_getR (show Dc Y_X12_trial 79 (.getfield 63) 3 82 from ⟨by decide +kernel, rfl⟩) w_f_RX12_63 rfl (fun v1 => ?_)
    refine J_iconst (3 : Int32) rfl (show Dc Y_X12_trial 82 (.iconst 3) 1 83 from ⟨by decide +kernel, rfl⟩) ?_
    refine J_iload_n rfl rfl (show Dc Y_X12_trial 83 (.iload_n 2) 1 84 from ⟨by decide +kernel, rfl⟩) ?_
    refine J_imul (show Dc Y_X12_trial 84 (.imul) 1 85 from ⟨by decide +kernel, rfl⟩) ?_
    refine J_iald (show Dc Y_X12_trial 85 (.iaload) 1 86 from ⟨by decide +kernel, rfl⟩) (fun v2 => ?_)
    refine J_aload_n rfl rfl (show Dc Y_X12_trial 86 (.aload_n 0) 1 87 from ⟨by decide +kernel, rfl⟩) ?_
    refine J_getR (show Dc Y_X12_trial 87 (.getfield 63) 3 90 from ⟨by decide +kernel, rfl⟩) w_f_RX12_63 rfl (fun v3 => ?_)
    refine J_iconst (3 : Int32) rfl (show Dc Y_X12_trial 90 (.iconst 3) 1 91 from ⟨by decide +kernel, rfl⟩) ?_
    refine J_iload_n rfl rfl (show Dc Y_X12_trial 91 (.iload_n 2) 1 92 from ⟨by decide +kernel, rfl⟩) ?_
    refine J_imul (show Dc Y_X12_trial 92 (.imul) 1 93 from ⟨by decide +kernel, rfl⟩) ?_
    refine J_iconst (1 : Int32) rfl (show Dc Y_X12_trial 93 (.iconst 1) 1 94 from ⟨by decide +kernel, rfl⟩) ?_
    refine J_iadd (show Dc Y_X12_trial 94 (.iadd) 1 95 from ⟨by decide +kernel, rfl⟩) ?_
    refine J_iald (show Dc Y_X12_trial 95 (.iaload) 1 96 from ⟨by decide +kernel, rfl⟩) (fun v4 => ?_)
    refine J_aload_n rfl rfl (show Dc Y_X12_trial 96 (.aload_n 0) 1 97 from ⟨by decide +kernel, rfl⟩) ?_
    refine J_getR (show Dc Y_X12_trial 97 (.getfield 63) 3 100 from ⟨by decide +kernel, rfl⟩) w_f_RX12_63 rfl (fun v5 => ?_)
    refine J_iconst (3 : Int32) rfl (show Dc Y_X12_trial 100 (.iconst 3) 1 101 from ⟨by decide +kernel, rfl⟩) ?_
    refine J_iload_n rfl rfl (show Dc Y_X12_trial 101 (.iload_n 2) 1 102 from ⟨by decide +kernel, rfl⟩) ?_
    refine J_imul (show Dc Y_X12_trial 102 (.imul) 1 103 from ⟨by decide +kernel, rfl⟩) ?_
    refine J_iconst (2 : Int32) rfl (show Dc Y_X12_trial 103 (.iconst 2) 1 104 from ⟨by decide +kernel, rfl⟩) ?_
    refine J_iadd (show Dc Y_X12_trial 104 (.iadd) 1 105 from ⟨by decide +kernel, rfl⟩) ?_
    refine J_iald (show Dc Y_X12_trial 105 (.iaload) 1 106 from ⟨by decide +kernel, rfl⟩) (fun v6 => ?_)
    refine J_callVi (fun r => r.1) (fun r => r.2) (show Dc Y_X12_trial 106 (.invokevirtual 310) 3 109 from ⟨by decide +kernel, rfl⟩) w_m_RX12_310 w_in_X12_act rfl w_se_X12_act w_cw_X12_act (c_X12_act N x0 v2 v4 v6 g) rfl rfl (by decide) (Nat.le_of_ble_eq_true rfl) (by decide) (by decide) (fun r7 => ?_)
    refine J_if_eq (tg := 118) (show Dc Y_X12_trial 109 (.ifCond .eq 9) 3 112 from ⟨by decide +kernel, rfl⟩) (by decide) (fun h => ?_) (fun h => ?_)
    · refine J_map (f := Sum.inr) (fun _ h => h) ?_
      exact j_X12_trial_118 (K := fun o => K (.inr o)) N x0 x1 x2 r7.2 h0
    · refine J_iinc (1 : Int32) [some (.ref x0), some (.int x1), some (.int (x2 + (1 : Int32)))] (show Dc Y_X12_trial 112 (.iinc 2 1) 3 115 from ⟨by decide +kernel, rfl⟩) rfl rfl (by decide) rfl rfl ?_
      refine J_goto (tg := 72) (show Dc Y_X12_trial 115 (.goto (-43)) 3 118 from ⟨by decide +kernel, rfl⟩) (by decide) ?_
      exact J_leaf (fun h => hL72 (x2 + (1 : Int32), r7.2) h)

theorem j_X12_trial_44 {X : ZX} (N : Nat) (x0 : Nat) (x1 : Int32)   (g : ZS) {K : (Int32 × ZS) → Prop} (h0 : ∀ v g, K (v, g) → xK X (some (.int v)) g) : J Y_X12_trial X 0 0 44 [some (.ref x0), some (.int x1), none] [] g (f_X12_trial_44 N x0 x1 g) K := by
  unfold f_X12_trial_44
  refine J_aload_n rfl rfl (show Dc Y_X12_trial 44 (.aload_n 0) 1 45 from ⟨by decide +kernel, rfl⟩) ?_
  refine J_callVi (fun r => r.1) (fun r => r.2) (show Dc Y_X12_trial 45 (.invokevirtual 168) 3 48 from ⟨by decide +kernel, rfl⟩) w_m_RX12_168 w_in_X12_wasRight rfl w_se_X12_wasRight w_cw_X12_wasRight (c_X12_wasRight x0 g) rfl rfl (by decide) (Nat.le_of_ble_eq_true rfl) (by decide) (by decide) (fun r1 => ?_)
  refine J_if_ne (tg := 58) (show Dc Y_X12_trial 48 (.ifCond .ne 10) 3 51 from ⟨by decide +kernel, rfl⟩) (by decide) (fun h => ?_) (fun h => ?_)
  · refine J_aload_n rfl rfl (show Dc Y_X12_trial 58 (.aload_n 0) 1 59 from ⟨by decide +kernel, rfl⟩) ?_
    refine J_getR (show Dc Y_X12_trial 59 (.getfield 9) 3 62 from ⟨by decide +kernel, rfl⟩) w_f_RX12_9 rfl (fun v2 => ?_)
    refine J_aload_n rfl rfl (show Dc Y_X12_trial 62 (.aload_n 0) 1 63 from ⟨by decide +kernel, rfl⟩) ?_
    refine J_getR (show Dc Y_X12_trial 63 (.getfield 57) 3 66 from ⟨by decide +kernel, rfl⟩) w_f_RX12_57 rfl (fun v3 => ?_)
    refine J_iconst (0 : Int32) rfl (show Dc Y_X12_trial 66 (.iconst 0) 1 67 from ⟨by decide +kernel, rfl⟩) ?_
    refine J_callSv (fun r => r) (show Dc Y_X12_trial 67 (.invokestatic 253) 3 70 from ⟨by decide +kernel, rfl⟩) w_m_RX12_253 w_st_X12_lay w_cw_X12_lay (c_X12_lay N v2 v3 (0 : Int32) r1.2) rfl rfl (by decide) (Nat.le_of_ble_eq_true rfl) (by decide) (by decide) (fun g4 => ?_)
    refine J_iconst (0 : Int32) rfl (show Dc Y_X12_trial 70 (.iconst 0) 1 71 from ⟨by decide +kernel, rfl⟩) ?_
    refine J_istore_n [some (.ref x0), some (.int x1), some (.int (0 : Int32))] (show Dc Y_X12_trial 71 (.istore_n 2) 1 72 from ⟨by decide +kernel, rfl⟩) rfl (by decide) rfl rfl ?_
    exact J_loop (X := X) (K := K) (uc := fun _ => 0) (us := fun _ => 0) (lf := fun s => [some (.ref x0), some (.int x1), some (.int s.1)]) (gf := fun s => s.2) (fun s => j_X12_trial_72 (K := zKl Y_X12_trial X 72 (fun _ => 0) (fun _ => 0) (fun s => [some (.ref x0), some (.int x1), some (.int s.1)]) (fun s => s.2) K) N x0 x1 s.1 s.2 h0 (fun s h => h)) N ((0 : Int32), g4)
  · refine J_iconst (-1 : Int32) rfl (show Dc Y_X12_trial 51 (.iconst (-1)) 1 52 from ⟨by decide +kernel, rfl⟩) ?_
    refine J_aload_n rfl rfl (show Dc Y_X12_trial 52 (.aload_n 0) 1 53 from ⟨by decide +kernel, rfl⟩) ?_
    refine J_getI (show Dc Y_X12_trial 53 (.getfield 138) 3 56 from ⟨by decide +kernel, rfl⟩) w_f_RX12_138 rfl (fun v5 => ?_)
    refine J_isub (show Dc Y_X12_trial 56 (.isub) 1 57 from ⟨by decide +kernel, rfl⟩) ?_
    exact J_reti (show Dc Y_X12_trial 57 (.ireturn) 1 58 from ⟨by decide +kernel, rfl⟩) rfl (h0 _ _) (by decide) (by decide)

theorem j_X12_trial_13 {X : ZX} (N : Nat) (x0 : Nat) (x1 : Int32)   (g : ZS) {K : ((Int32 × ZS) ⊕ (Int32 × ZS)) → Prop} (h0 : ∀ v g, K (.inr (v, g)) → xK X (some (.int v)) g) (hL13 : ∀ s, K (.inl s) → zG Y_X12_trial X 0 0 13 [some (.ref x0), some (.int s.1), none] [] s.2) : J Y_X12_trial X 0 0 13 [some (.ref x0), some (.int x1), none] [] g (f_X12_trial_13 N x0 x1 g) K := by
  unfold f_X12_trial_13
  refine J_aload_n rfl rfl (show Dc Y_X12_trial 13 (.aload_n 0) 1 14 from ⟨by decide +kernel, rfl⟩) ?_
  refine J_callVi (fun r => r) (fun _ => g) (show Dc Y_X12_trial 14 (.invokevirtual 145) 3 17 from ⟨by decide +kernel, rfl⟩) w_m_RX12_145 w_in_X12_fine rfl w_se_X12_fine w_cw_X12_fine (c_X12_fine x0 g) rfl rfl (by decide) (Nat.le_of_ble_eq_true rfl) (by decide) (by decide) (fun v1 => ?_)
  refine J_if_eq (tg := 44) (show Dc Y_X12_trial 17 (.ifCond .eq 27) 3 20 from ⟨by decide +kernel, rfl⟩) (by decide) (fun h => ?_) (fun h => ?_)
  · refine J_map (f := Sum.inr) (fun _ h => h) ?_
    exact j_X12_trial_44 (K := fun o => K (.inr o)) N x0 x1 g h0
  · refine J_aload_n rfl rfl (show Dc Y_X12_trial 20 (.aload_n 0) 1 21 from ⟨by decide +kernel, rfl⟩) ?_
    refine J_getI (show Dc Y_X12_trial 21 (.getfield 135) 3 24 from ⟨by decide +kernel, rfl⟩) w_f_RX12_135 rfl (fun v2 => ?_)
    refine J_aload_n rfl rfl (show Dc Y_X12_trial 24 (.aload_n 0) 1 25 from ⟨by decide +kernel, rfl⟩) ?_
    refine J_getI (show Dc Y_X12_trial 25 (.getfield 129) 3 28 from ⟨by decide +kernel, rfl⟩) w_f_RX12_129 rfl (fun v3 => ?_)
    refine J_icmp_ge (tg := 44) (show Dc Y_X12_trial 28 (.if_icmp .ge 16) 3 31 from ⟨by decide +kernel, rfl⟩) (by decide) (fun h => ?_) (fun h => ?_)
    · refine J_map (f := Sum.inr) (fun _ h => h) ?_
      exact j_X12_trial_44 (K := fun o => K (.inr o)) N x0 x1 g h0
    · refine J_aload_n rfl rfl (show Dc Y_X12_trial 31 (.aload_n 0) 1 32 from ⟨by decide +kernel, rfl⟩) ?_
      refine J_iconst (3 : Int32) rfl (show Dc Y_X12_trial 32 (.iconst 3) 1 33 from ⟨by decide +kernel, rfl⟩) ?_
      refine J_iload_n rfl rfl (show Dc Y_X12_trial 33 (.iload_n 1) 1 34 from ⟨by decide +kernel, rfl⟩) ?_
      refine J_imul (show Dc Y_X12_trial 34 (.imul) 1 35 from ⟨by decide +kernel, rfl⟩) ?_
      refine J_callVv (fun r => r) (show Dc Y_X12_trial 35 (.invokevirtual 307) 3 38 from ⟨by decide +kernel, rfl⟩) w_m_RX12_307 w_in_X12_readAct rfl w_se_X12_readAct w_cw_X12_readAct (c_X12_readAct x0 ((3 : Int32) * x1) g) rfl rfl (by decide) (Nat.le_of_ble_eq_true rfl) (by decide) (by decide) (fun g4 => ?_)
      refine J_iinc (1 : Int32) [some (.ref x0), some (.int (x1 + (1 : Int32))), none] (show Dc Y_X12_trial 38 (.iinc 1 1) 3 41 from ⟨by decide +kernel, rfl⟩) rfl rfl (by decide) rfl rfl ?_
      refine J_goto (tg := 13) (show Dc Y_X12_trial 41 (.goto (-28)) 3 44 from ⟨by decide +kernel, rfl⟩) (by decide) ?_
      exact J_leaf (fun h => hL13 (x1 + (1 : Int32), g4) h)

theorem j_X12_trial {X : ZX} (N : Nat) (x0 : Nat)   (g : ZS) {K : (Int32 × ZS) → Prop} (h0 : ∀ v g, K (v, g) → xK X (some (.int v)) g) : J Y_X12_trial X 0 0 0 [some (.ref x0), none, none] [] g (f_X12_trial N x0 g) K := by
  unfold f_X12_trial
  refine J_aload_n rfl rfl (show Dc Y_X12_trial 0 (.aload_n 0) 1 1 from ⟨by decide +kernel, rfl⟩) ?_
  refine J_iconst (0 : Int32) rfl (show Dc Y_X12_trial 1 (.iconst 0) 1 2 from ⟨by decide +kernel, rfl⟩) ?_
  refine J_putI (show Dc Y_X12_trial 2 (.putfield 109) 3 5 from ⟨by decide +kernel, rfl⟩) w_f_RX12_109 rfl rfl (fun g1 => ?_) (fun h => by cases h)
  refine J_aload_n rfl rfl (show Dc Y_X12_trial 5 (.aload_n 0) 1 6 from ⟨by decide +kernel, rfl⟩) ?_
  refine J_bipush (60 : Int32) rfl (show Dc Y_X12_trial 6 (.bipush 60) 2 8 from ⟨by decide +kernel, rfl⟩) ?_
  refine J_callVv (fun r => r) (show Dc Y_X12_trial 8 (.invokevirtual 165) 3 11 from ⟨by decide +kernel, rfl⟩) w_m_RX12_165 w_in_X12_beginText rfl w_se_X12_beginText w_cw_X12_beginText (c_X12_beginText x0 (60 : Int32) g1) rfl rfl (by decide) (Nat.le_of_ble_eq_true rfl) (by decide) (by decide) (fun g2 => ?_)
  refine J_iconst (0 : Int32) rfl (show Dc Y_X12_trial 11 (.iconst 0) 1 12 from ⟨by decide +kernel, rfl⟩) ?_
  refine J_istore_n [some (.ref x0), some (.int (0 : Int32)), none] (show Dc Y_X12_trial 12 (.istore_n 1) 1 13 from ⟨by decide +kernel, rfl⟩) rfl (by decide) rfl rfl ?_
  exact J_loop (X := X) (K := K) (uc := fun _ => 0) (us := fun _ => 0) (lf := fun s => [some (.ref x0), some (.int s.1), none]) (gf := fun s => s.2) (fun s => j_X12_trial_13 (K := zKl Y_X12_trial X 13 (fun _ => 0) (fun _ => 0) (fun s => [some (.ref x0), some (.int s.1), none]) (fun s => s.2) K) N x0 s.1 s.2 h0 (fun s h => h)) N ((0 : Int32), g2)

theorem c_X12_trial {l : Launch} {D : ZD} {B0 : Nat} (N : Nat) (x0 : Nat) (g : ZS) : ∀ r, f_X12_trial N x0 g = some r → zCt l D B0 yX12_trial Y_X12_trial [.ref x0] g (some (.int r.1)) r.2 :=
  zCt_ofF (vo := fun r => some (.int r.1)) (so := fun r => r.2) (by decide +kernel) rfl (fun h => by cases h) rfl (Nat.le_of_ble_eq_true rfl) (fun X => j_X12_trial N x0 g (fun _ _ h => h))

theorem j_X12_says {X : ZX} (N : Nat) (x0 : Nat) (x1 : Int32)   (g : ZS) {K : (Int32 × ZS) → Prop} (h0 : ∀ v g, K (v, g) → xK X (some (.int v)) g) : J Y_X12_says X 0 0 0 [some (.ref x0), some (.int x1), none] [] g (f_X12_says N x0 x1 g) K := by
  unfold f_X12_says
  refine J_aload_n rfl rfl (show Dc Y_X12_says 0 (.aload_n 0) 1 1 from ⟨by decide +kernel, rfl⟩) ?_
  refine J_iconst (0 : Int32) rfl (show Dc Y_X12_says 1 (.iconst 0) 1 2 from ⟨by decide +kernel, rfl⟩) ?_
  refine J_putI (show Dc Y_X12_says 2 (.putfield 109) 3 5 from ⟨by decide +kernel, rfl⟩) w_f_RX12_109 rfl rfl (fun g1 => ?_) (fun h => by cases h)
  refine J_aload_n rfl rfl (show Dc Y_X12_says 5 (.aload_n 0) 1 6 from ⟨by decide +kernel, rfl⟩) ?_
  refine J_iload_n rfl rfl (show Dc Y_X12_says 6 (.iload_n 1) 1 7 from ⟨by decide +kernel, rfl⟩) ?_
  refine J_callVi (fun r => r) (fun _ => g1) (show Dc Y_X12_says 7 (.invokevirtual 234) 3 10 from ⟨by decide +kernel, rfl⟩) w_m_RX12_234 w_in_X12_isParrot rfl w_se_X12_isParrot w_cw_X12_isParrot (c_X12_isParrot x0 x1 g1) rfl rfl (by decide) (Nat.le_of_ble_eq_true rfl) (by decide) (by decide) (fun v2 => ?_)
  refine J_if_ne (tg := 15) (show Dc Y_X12_says 10 (.ifCond .ne 5) 3 13 from ⟨by decide +kernel, rfl⟩) (by decide) (fun h => ?_) (fun h => ?_)
  · refine J_aload_n rfl rfl (show Dc Y_X12_says 15 (.aload_n 0) 1 16 from ⟨by decide +kernel, rfl⟩) ?_
    refine J_aload_n rfl rfl (show Dc Y_X12_says 16 (.aload_n 0) 1 17 from ⟨by decide +kernel, rfl⟩) ?_
    refine J_getR (show Dc Y_X12_says 17 (.getfield 9) 3 20 from ⟨by decide +kernel, rfl⟩) w_f_RX12_9 rfl (fun v3 => ?_)
    refine J_iload_n rfl rfl (show Dc Y_X12_says 20 (.iload_n 1) 1 21 from ⟨by decide +kernel, rfl⟩) ?_
    refine J_aload_n rfl rfl (show Dc Y_X12_says 21 (.aload_n 0) 1 22 from ⟨by decide +kernel, rfl⟩) ?_
    refine J_getR (show Dc Y_X12_says 22 (.getfield 45) 3 25 from ⟨by decide +kernel, rfl⟩) w_f_RX12_45 rfl (fun v4 => ?_)
    refine J_callVi (fun r => r.1) (fun r => r.2) (show Dc Y_X12_says 25 (.invokevirtual 291) 3 28 from ⟨by decide +kernel, rfl⟩) w_m_RX12_291 w_in_X12_laySays rfl w_se_X12_laySays w_cw_X12_laySays (c_X12_laySays N x0 v3 x1 v4 g1) rfl rfl (by decide) (Nat.le_of_ble_eq_true rfl) (by decide) (by decide) (fun r5 => ?_)
    refine J_istore_n [some (.ref x0), some (.int x1), some (.int r5.1)] (show Dc Y_X12_says 28 (.istore_n 2) 1 29 from ⟨by decide +kernel, rfl⟩) rfl (by decide) rfl rfl ?_
    refine J_aload_n rfl rfl (show Dc Y_X12_says 29 (.aload_n 0) 1 30 from ⟨by decide +kernel, rfl⟩) ?_
    refine J_aload_n rfl rfl (show Dc Y_X12_says 30 (.aload_n 0) 1 31 from ⟨by decide +kernel, rfl⟩) ?_
    refine J_getR (show Dc Y_X12_says 31 (.getfield 45) 3 34 from ⟨by decide +kernel, rfl⟩) w_f_RX12_45 rfl (fun v6 => ?_)
    refine J_iload_n rfl rfl (show Dc Y_X12_says 34 (.iload_n 2) 1 35 from ⟨by decide +kernel, rfl⟩) ?_
    refine J_callVv (fun r => r) (show Dc Y_X12_says 35 (.invokevirtual 313) 3 38 from ⟨by decide +kernel, rfl⟩) w_m_RX12_313 w_in_X12_tellList rfl w_se_X12_tellList w_cw_X12_tellList (c_X12_tellList N x0 v6 r5.1 r5.2) rfl rfl (by decide) (Nat.le_of_ble_eq_true rfl) (by decide) (by decide) (fun g7 => ?_)
    refine J_iload_n rfl rfl (show Dc Y_X12_says 38 (.iload_n 2) 1 39 from ⟨by decide +kernel, rfl⟩) ?_
    exact J_reti (show Dc Y_X12_says 39 (.ireturn) 1 40 from ⟨by decide +kernel, rfl⟩) rfl (h0 _ _) (by decide) (by decide)
  · refine J_iconst (-1 : Int32) rfl (show Dc Y_X12_says 13 (.iconst (-1)) 1 14 from ⟨by decide +kernel, rfl⟩) ?_
    exact J_reti (show Dc Y_X12_says 14 (.ireturn) 1 15 from ⟨by decide +kernel, rfl⟩) rfl (h0 _ _) (by decide) (by decide)

theorem c_X12_says {l : Launch} {D : ZD} {B0 : Nat} (N : Nat) (x0 : Nat) (x1 : Int32) (g : ZS) : ∀ r, f_X12_says N x0 x1 g = some r → zCt l D B0 yX12_says Y_X12_says [.ref x0, .int x1] g (some (.int r.1)) r.2 :=
  zCt_ofF (vo := fun r => some (.int r.1)) (so := fun r => r.2) (by decide +kernel) rfl (fun h => by cases h) rfl (Nat.le_of_ble_eq_true rfl) (fun X => j_X12_says N x0 x1 g (fun _ _ h => h))

theorem j_X12_placeOf_15 {X : ZX} (N : Nat) (x0 : Nat) (x3 : Int32) (x4 : Int32) (x5 : Int32)   (g : ZS) {K : ((Int32) ⊕ (Int32 × ZS)) → Prop} (h0 : ∀ v g, K (.inr (v, g)) → xK X (some (.int v)) g) (hL15 : ∀ s, K (.inl s) → zG Y_X12_placeOf X 0 0 15 [some (.ref x0), none, none, some (.int x3), some (.int x4), some (.int s)] [] g) : J Y_X12_placeOf X 0 0 15 [some (.ref x0), none, none, some (.int x3), some (.int x4), some (.int x5)] [] g (f_X12_placeOf_15 N x0 x3 x4 x5 g) K := by
  unfold f_X12_placeOf_15
  refine J_iload rfl (show Dc Y_X12_placeOf 15 (.iload 5) 2 17 from ⟨by decide +kernel, rfl⟩) ?_
  refine J_iload rfl (show Dc Y_X12_placeOf 17 (.iload 4) 2 19 from ⟨by decide +kernel, rfl⟩) ?_
  refine J_icmp_ge (tg := 42) (show Dc Y_X12_placeOf 19 (.if_icmp .ge 23) 3 22 from ⟨by decide +kernel, rfl⟩) (by decide) (fun h => ?_) (fun h => ?_)
  · refine J_map (f := Sum.inr) (fun _ h => h) ?_
    refine J_bipush (-2 : Int32) rfl (show Dc Y_X12_placeOf 42 (.bipush (-2)) 2 44 from ⟨by decide +kernel, rfl⟩) ?_
    exact J_reti (show Dc Y_X12_placeOf 44 (.ireturn) 1 45 from ⟨by decide +kernel, rfl⟩) rfl (h0 _ _) (by decide) (by decide)
  · refine J_aload_n rfl rfl (show Dc Y_X12_placeOf 22 (.aload_n 0) 1 23 from ⟨by decide +kernel, rfl⟩) ?_
    refine J_getR (show Dc Y_X12_placeOf 23 (.getfield 45) 3 26 from ⟨by decide +kernel, rfl⟩) w_f_RX12_45 rfl (fun v1 => ?_)
    refine J_iload rfl (show Dc Y_X12_placeOf 26 (.iload 5) 2 28 from ⟨by decide +kernel, rfl⟩) ?_
    refine J_iald (show Dc Y_X12_placeOf 28 (.iaload) 1 29 from ⟨by decide +kernel, rfl⟩) (fun v2 => ?_)
    refine J_iload_n rfl rfl (show Dc Y_X12_placeOf 29 (.iload_n 3) 1 30 from ⟨by decide +kernel, rfl⟩) ?_
    refine J_icmp_ne (tg := 36) (show Dc Y_X12_placeOf 30 (.if_icmp .ne 6) 3 33 from ⟨by decide +kernel, rfl⟩) (by decide) (fun h => ?_) (fun h => ?_)
    · refine J_iinc (1 : Int32) [some (.ref x0), none, none, some (.int x3), some (.int x4), some (.int (x5 + (1 : Int32)))] (show Dc Y_X12_placeOf 36 (.iinc 5 1) 3 39 from ⟨by decide +kernel, rfl⟩) rfl rfl (by decide) rfl rfl ?_
      refine J_goto (tg := 15) (show Dc Y_X12_placeOf 39 (.goto (-24)) 3 42 from ⟨by decide +kernel, rfl⟩) (by decide) ?_
      exact J_leaf (fun h => hL15 (x5 + (1 : Int32)) h)
    · refine J_map (f := Sum.inr) (fun _ h => h) ?_
      refine J_iload rfl (show Dc Y_X12_placeOf 33 (.iload 5) 2 35 from ⟨by decide +kernel, rfl⟩) ?_
      exact J_reti (show Dc Y_X12_placeOf 35 (.ireturn) 1 36 from ⟨by decide +kernel, rfl⟩) rfl (h0 _ _) (by decide) (by decide)

theorem j_X12_placeOf {X : ZX} (N : Nat) (x0 : Nat) (x1 : Nat) (x2 : Int32) (x3 : Int32)   (g : ZS) {K : (Int32 × ZS) → Prop} (h0 : ∀ v g, K (v, g) → xK X (some (.int v)) g) : J Y_X12_placeOf X 0 0 0 [some (.ref x0), some (.ref x1), some (.int x2), some (.int x3), none, none] [] g (f_X12_placeOf N x0 x1 x2 x3 g) K := by
  unfold f_X12_placeOf
  refine J_aload_n rfl rfl (show Dc Y_X12_placeOf 0 (.aload_n 0) 1 1 from ⟨by decide +kernel, rfl⟩) ?_
  refine J_aload_n rfl rfl (show Dc Y_X12_placeOf 1 (.aload_n 1) 1 2 from ⟨by decide +kernel, rfl⟩) ?_
  refine J_iload_n rfl rfl (show Dc Y_X12_placeOf 2 (.iload_n 2) 1 3 from ⟨by decide +kernel, rfl⟩) ?_
  refine J_aload_n rfl rfl (show Dc Y_X12_placeOf 3 (.aload_n 0) 1 4 from ⟨by decide +kernel, rfl⟩) ?_
  refine J_getR (show Dc Y_X12_placeOf 4 (.getfield 45) 3 7 from ⟨by decide +kernel, rfl⟩) w_f_RX12_45 rfl (fun v1 => ?_)
  refine J_callVi (fun r => r.1) (fun r => r.2) (show Dc Y_X12_placeOf 7 (.invokevirtual 291) 3 10 from ⟨by decide +kernel, rfl⟩) w_m_RX12_291 w_in_X12_laySays rfl w_se_X12_laySays w_cw_X12_laySays (c_X12_laySays N x0 x1 x2 v1 g) rfl rfl (by decide) (Nat.le_of_ble_eq_true rfl) (by decide) (by decide) (fun r2 => ?_)
  refine J_istore [some (.ref x0), some (.ref x1), some (.int x2), some (.int x3), some (.int r2.1), none] (show Dc Y_X12_placeOf 10 (.istore 4) 2 12 from ⟨by decide +kernel, rfl⟩) (by decide) rfl rfl ?_
  refine J_iconst (0 : Int32) rfl (show Dc Y_X12_placeOf 12 (.iconst 0) 1 13 from ⟨by decide +kernel, rfl⟩) ?_
  refine J_istore [some (.ref x0), some (.ref x1), some (.int x2), some (.int x3), some (.int r2.1), some (.int (0 : Int32))] (show Dc Y_X12_placeOf 13 (.istore 5) 2 15 from ⟨by decide +kernel, rfl⟩) (by decide) rfl rfl ?_
  refine J_mask [true, false, false, true, true, true] ?_
  exact J_loop (X := X) (K := K) (uc := fun _ => 0) (us := fun _ => 0) (lf := fun s => [some (.ref x0), none, none, some (.int x3), some (.int r2.1), some (.int s)]) (gf := fun s => r2.2) (fun s => j_X12_placeOf_15 (K := zKl Y_X12_placeOf X 15 (fun _ => 0) (fun _ => 0) (fun s => [some (.ref x0), none, none, some (.int x3), some (.int r2.1), some (.int s)]) (fun s => r2.2) K) N x0 x3 r2.1 s r2.2 h0 (fun s h => h)) N (0 : Int32)

theorem c_X12_placeOf {l : Launch} {D : ZD} {B0 : Nat} (N : Nat) (x0 : Nat) (x1 : Nat) (x2 : Int32) (x3 : Int32) (g : ZS) : ∀ r, f_X12_placeOf N x0 x1 x2 x3 g = some r → zCt l D B0 yX12_placeOf Y_X12_placeOf [.ref x0, .ref x1, .int x2, .int x3] g (some (.int r.1)) r.2 :=
  zCt_ofF (vo := fun r => some (.int r.1)) (so := fun r => r.2) (by decide +kernel) rfl (fun h => by cases h) rfl (Nat.le_of_ble_eq_true rfl) (fun X => j_X12_placeOf N x0 x1 x2 x3 g (fun _ _ h => h))

theorem j_X12_place_34 {X : ZX} (N : Nat)  (s0 : Int32)  (g : ZS) {K : (Int32 × ZS) → Prop} (h0 : ∀ v g, K (v, g) → xK X (some (.int v)) g) : J Y_X12_place X 0 0 34 [none, none, none] [.int s0] g (f_X12_place_34 N s0 g) K := by
  unfold f_X12_place_34
  exact J_reti (show Dc Y_X12_place 34 (.ireturn) 1 35 from ⟨by decide +kernel, rfl⟩) rfl (h0 _ _) (by decide) (by decide)

theorem j_X12_place_33 {X : ZX} (N : Nat)    (g : ZS) {K : (Int32 × ZS) → Prop} (h0 : ∀ v g, K (v, g) → xK X (some (.int v)) g) : J Y_X12_place X 0 0 33 [none, none, none] [] g (f_X12_place_33 N g) K := by
  unfold f_X12_place_33
  refine J_iconst (-1 : Int32) rfl (show Dc Y_X12_place 33 (.iconst (-1)) 1 34 from ⟨by decide +kernel, rfl⟩) ?_
  exact j_X12_place_34 N (-1 : Int32) g h0

theorem j_X12_place {X : ZX} (N : Nat) (x0 : Nat) (x1 : Int32) (x2 : Int32)   (g : ZS) {K : (Int32 × ZS) → Prop} (h0 : ∀ v g, K (v, g) → xK X (some (.int v)) g) : J Y_X12_place X 0 0 0 [some (.ref x0), some (.int x1), some (.int x2)] [] g (f_X12_place N x0 x1 x2 g) K := by
  unfold f_X12_place
  refine J_aload_n rfl rfl (show Dc Y_X12_place 0 (.aload_n 0) 1 1 from ⟨by decide +kernel, rfl⟩) ?_
  refine J_iconst (0 : Int32) rfl (show Dc Y_X12_place 1 (.iconst 0) 1 2 from ⟨by decide +kernel, rfl⟩) ?_
  refine J_putI (show Dc Y_X12_place 2 (.putfield 109) 3 5 from ⟨by decide +kernel, rfl⟩) w_f_RX12_109 rfl rfl (fun g1 => ?_) (fun h => by cases h)
  refine J_aload_n rfl rfl (show Dc Y_X12_place 5 (.aload_n 0) 1 6 from ⟨by decide +kernel, rfl⟩) ?_
  refine J_iload_n rfl rfl (show Dc Y_X12_place 6 (.iload_n 1) 1 7 from ⟨by decide +kernel, rfl⟩) ?_
  refine J_callVi (fun r => r) (fun _ => g1) (show Dc Y_X12_place 7 (.invokevirtual 234) 3 10 from ⟨by decide +kernel, rfl⟩) w_m_RX12_234 w_in_X12_isParrot rfl w_se_X12_isParrot w_cw_X12_isParrot (c_X12_isParrot x0 x1 g1) rfl rfl (by decide) (Nat.le_of_ble_eq_true rfl) (by decide) (by decide) (fun v2 => ?_)
  refine J_if_eq (tg := 33) (show Dc Y_X12_place 10 (.ifCond .eq 23) 3 13 from ⟨by decide +kernel, rfl⟩) (by decide) (fun h => ?_) (fun h => ?_)
  · refine J_mask [false, false, false] ?_
    exact j_X12_place_33 N g1 h0
  · refine J_iload_n rfl rfl (show Dc Y_X12_place 13 (.iload_n 2) 1 14 from ⟨by decide +kernel, rfl⟩) ?_
    refine J_callSi (fun r => r) (fun _ => g1) (show Dc Y_X12_place 14 (.invokestatic 244) 3 17 from ⟨by decide +kernel, rfl⟩) w_m_RX12_244 w_st_X12_isWord w_cw_X12_isWord (c_X12_isWord x2 g1) rfl rfl (by decide) (Nat.le_of_ble_eq_true rfl) (by decide) (by decide) (fun v3 => ?_)
    refine J_if_eq (tg := 33) (show Dc Y_X12_place 17 (.ifCond .eq 16) 3 20 from ⟨by decide +kernel, rfl⟩) (by decide) (fun h => ?_) (fun h => ?_)
    · refine J_mask [false, false, false] ?_
      exact j_X12_place_33 N g1 h0
    · refine J_aload_n rfl rfl (show Dc Y_X12_place 20 (.aload_n 0) 1 21 from ⟨by decide +kernel, rfl⟩) ?_
      refine J_aload_n rfl rfl (show Dc Y_X12_place 21 (.aload_n 0) 1 22 from ⟨by decide +kernel, rfl⟩) ?_
      refine J_getR (show Dc Y_X12_place 22 (.getfield 9) 3 25 from ⟨by decide +kernel, rfl⟩) w_f_RX12_9 rfl (fun v4 => ?_)
      refine J_iload_n rfl rfl (show Dc Y_X12_place 25 (.iload_n 1) 1 26 from ⟨by decide +kernel, rfl⟩) ?_
      refine J_iload_n rfl rfl (show Dc Y_X12_place 26 (.iload_n 2) 1 27 from ⟨by decide +kernel, rfl⟩) ?_
      refine J_callVi (fun r => r.1) (fun r => r.2) (show Dc Y_X12_place 27 (.invokevirtual 316) 3 30 from ⟨by decide +kernel, rfl⟩) w_m_RX12_316 w_in_X12_placeOf rfl w_se_X12_placeOf w_cw_X12_placeOf (c_X12_placeOf N x0 v4 x1 x2 g1) rfl rfl (by decide) (Nat.le_of_ble_eq_true rfl) (by decide) (by decide) (fun r5 => ?_)
      refine J_goto (tg := 34) (show Dc Y_X12_place 30 (.goto 4) 3 33 from ⟨by decide +kernel, rfl⟩) (by decide) ?_
      refine J_mask [false, false, false] ?_
      exact j_X12_place_34 N r5.1 r5.2 h0

theorem c_X12_place {l : Launch} {D : ZD} {B0 : Nat} (N : Nat) (x0 : Nat) (x1 : Int32) (x2 : Int32) (g : ZS) : ∀ r, f_X12_place N x0 x1 x2 g = some r → zCt l D B0 yX12_place Y_X12_place [.ref x0, .int x1, .int x2] g (some (.int r.1)) r.2 :=
  zCt_ofF (vo := fun r => some (.int r.1)) (so := fun r => r.2) (by decide +kernel) rfl (fun h => by cases h) rfl (Nat.le_of_ble_eq_true rfl) (fun X => j_X12_place N x0 x1 x2 g (fun _ _ h => h))

theorem j_X12_soonest_75 {X : ZX} (N : Nat) (x0 : Nat) (x1 : Int32) (x2 : Int32) (x3 : Int32) (x4 : Int32) (x5 : Int32)   (g : ZS) {K : ((Int32 × Int32 × Int32 × Int32 × ZS) ⊕ (Int32 × ZS)) → Prop} (h0 : ∀ v g, K (.inr (v, g)) → xK X (some (.int v)) g) (hL27 : ∀ s, K (.inl s) → zG Y_X12_soonest X 0 0 27 [some (.ref x0), some (.int x1), some (.int s.1), some (.int s.2.1), some (.int s.2.2.1), some (.int s.2.2.2.1), none] [] s.2.2.2.2) : J Y_X12_soonest X 0 0 75 [some (.ref x0), some (.int x1), some (.int x2), some (.int x3), some (.int x4), some (.int x5), none] [] g (f_X12_soonest_75 N x0 x1 x2 x3 x4 x5 g) K := by
  unfold f_X12_soonest_75
  refine J_iinc (1 : Int32) [some (.ref x0), some (.int x1), some (.int x2), some (.int x3), some (.int x4), some (.int (x5 + (1 : Int32))), none] (show Dc Y_X12_soonest 75 (.iinc 5 1) 3 78 from ⟨by decide +kernel, rfl⟩) rfl rfl (by decide) rfl rfl ?_
  refine J_goto (tg := 27) (show Dc Y_X12_soonest 78 (.goto (-51)) 3 81 from ⟨by decide +kernel, rfl⟩) (by decide) ?_
  exact J_leaf (fun h => hL27 (x2, x3, x4, x5 + (1 : Int32), g) h)

theorem j_X12_soonest_27 {X : ZX} (N : Nat) (x0 : Nat) (x1 : Int32) (x2 : Int32) (x3 : Int32) (x4 : Int32) (x5 : Int32)   (g : ZS) {K : ((Int32 × Int32 × Int32 × Int32 × ZS) ⊕ (Int32 × ZS)) → Prop} (h0 : ∀ v g, K (.inr (v, g)) → xK X (some (.int v)) g) (hL27 : ∀ s, K (.inl s) → zG Y_X12_soonest X 0 0 27 [some (.ref x0), some (.int x1), some (.int s.1), some (.int s.2.1), some (.int s.2.2.1), some (.int s.2.2.2.1), none] [] s.2.2.2.2) : J Y_X12_soonest X 0 0 27 [some (.ref x0), some (.int x1), some (.int x2), some (.int x3), some (.int x4), some (.int x5), none] [] g (f_X12_soonest_27 N x0 x1 x2 x3 x4 x5 g) K := by
  unfold f_X12_soonest_27
  refine J_iload rfl (show Dc Y_X12_soonest 27 (.iload 5) 2 29 from ⟨by decide +kernel, rfl⟩) ?_
  refine J_aload_n rfl rfl (show Dc Y_X12_soonest 29 (.aload_n 0) 1 30 from ⟨by decide +kernel, rfl⟩) ?_
  refine J_getI (show Dc Y_X12_soonest 30 (.getfield 116) 3 33 from ⟨by decide +kernel, rfl⟩) w_f_RX12_116 rfl (fun v1 => ?_)
  refine J_icmp_ge (tg := 81) (show Dc Y_X12_soonest 33 (.if_icmp .ge 48) 3 36 from ⟨by decide +kernel, rfl⟩) (by decide) (fun h => ?_) (fun h => ?_)
  · refine J_map (f := Sum.inr) (fun _ h => h) ?_
    refine J_iload_n rfl rfl (show Dc Y_X12_soonest 81 (.iload_n 2) 1 82 from ⟨by decide +kernel, rfl⟩) ?_
    refine J_bipush (-2 : Int32) rfl (show Dc Y_X12_soonest 82 (.bipush (-2)) 2 84 from ⟨by decide +kernel, rfl⟩) ?_
    refine J_icmp_ne (tg := 90) (show Dc Y_X12_soonest 84 (.if_icmp .ne 6) 3 87 from ⟨by decide +kernel, rfl⟩) (by decide) (fun h => ?_) (fun h => ?_)
    · refine J_aload_n rfl rfl (show Dc Y_X12_soonest 90 (.aload_n 0) 1 91 from ⟨by decide +kernel, rfl⟩) ?_
      refine J_iconst (0 : Int32) rfl (show Dc Y_X12_soonest 91 (.iconst 0) 1 92 from ⟨by decide +kernel, rfl⟩) ?_
      refine J_putI (show Dc Y_X12_soonest 92 (.putfield 113) 3 95 from ⟨by decide +kernel, rfl⟩) w_f_RX12_113 rfl rfl (fun g2 => ?_) (fun h => by cases h)
      refine J_aload_n rfl rfl (show Dc Y_X12_soonest 95 (.aload_n 0) 1 96 from ⟨by decide +kernel, rfl⟩) ?_
      refine J_iload_n rfl rfl (show Dc Y_X12_soonest 96 (.iload_n 3) 1 97 from ⟨by decide +kernel, rfl⟩) ?_
      refine J_i2l (show Dc Y_X12_soonest 97 (.i2l) 1 98 from ⟨by decide +kernel, rfl⟩) ?_
      refine J_callVv (fun r => r) (show Dc Y_X12_soonest 98 (.invokevirtual 274) 3 101 from ⟨by decide +kernel, rfl⟩) w_m_RX12_274 w_in_X12_tell rfl w_se_X12_tell w_cw_X12_tell (c_X12_tell x0 x3.toInt64 g2) rfl rfl (by decide) (Nat.le_of_ble_eq_true rfl) (by decide) (by decide) (fun g3 => ?_)
      refine J_aload_n rfl rfl (show Dc Y_X12_soonest 101 (.aload_n 0) 1 102 from ⟨by decide +kernel, rfl⟩) ?_
      refine J_iload rfl (show Dc Y_X12_soonest 102 (.iload 4) 2 104 from ⟨by decide +kernel, rfl⟩) ?_
      refine J_i2l (show Dc Y_X12_soonest 104 (.i2l) 1 105 from ⟨by decide +kernel, rfl⟩) ?_
      refine J_callVv (fun r => r) (show Dc Y_X12_soonest 105 (.invokevirtual 274) 3 108 from ⟨by decide +kernel, rfl⟩) w_m_RX12_274 w_in_X12_tell rfl w_se_X12_tell w_cw_X12_tell (c_X12_tell x0 x4.toInt64 g3) rfl rfl (by decide) (Nat.le_of_ble_eq_true rfl) (by decide) (by decide) (fun g4 => ?_)
      refine J_iload_n rfl rfl (show Dc Y_X12_soonest 108 (.iload_n 2) 1 109 from ⟨by decide +kernel, rfl⟩) ?_
      exact J_reti (show Dc Y_X12_soonest 109 (.ireturn) 1 110 from ⟨by decide +kernel, rfl⟩) rfl (h0 _ _) (by decide) (by decide)
    · refine J_bipush (-2 : Int32) rfl (show Dc Y_X12_soonest 87 (.bipush (-2)) 2 89 from ⟨by decide +kernel, rfl⟩) ?_
      exact J_reti (show Dc Y_X12_soonest 89 (.ireturn) 1 90 from ⟨by decide +kernel, rfl⟩) rfl (h0 _ _) (by decide) (by decide)
  · refine J_aload_n rfl rfl (show Dc Y_X12_soonest 36 (.aload_n 0) 1 37 from ⟨by decide +kernel, rfl⟩) ?_
    refine J_aload_n rfl rfl (show Dc Y_X12_soonest 37 (.aload_n 0) 1 38 from ⟨by decide +kernel, rfl⟩) ?_
    refine J_getR (show Dc Y_X12_soonest 38 (.getfield 9) 3 41 from ⟨by decide +kernel, rfl⟩) w_f_RX12_9 rfl (fun v5 => ?_)
    refine J_iload rfl (show Dc Y_X12_soonest 41 (.iload 5) 2 43 from ⟨by decide +kernel, rfl⟩) ?_
    refine J_iload_n rfl rfl (show Dc Y_X12_soonest 43 (.iload_n 1) 1 44 from ⟨by decide +kernel, rfl⟩) ?_
    refine J_callVi (fun r => r.1) (fun r => r.2) (show Dc Y_X12_soonest 44 (.invokevirtual 316) 3 47 from ⟨by decide +kernel, rfl⟩) w_m_RX12_316 w_in_X12_placeOf rfl w_se_X12_placeOf w_cw_X12_placeOf (c_X12_placeOf N x0 v5 x5 x1 g) rfl rfl (by decide) (Nat.le_of_ble_eq_true rfl) (by decide) (by decide) (fun r6 => ?_)
    refine J_istore [some (.ref x0), some (.int x1), some (.int x2), some (.int x3), some (.int x4), some (.int x5), some (.int r6.1)] (show Dc Y_X12_soonest 47 (.istore 6) 2 49 from ⟨by decide +kernel, rfl⟩) (by decide) rfl rfl ?_
    refine J_iload rfl (show Dc Y_X12_soonest 49 (.iload 6) 2 51 from ⟨by decide +kernel, rfl⟩) ?_
    refine J_if_ge (tg := 57) (show Dc Y_X12_soonest 51 (.ifCond .ge 6) 3 54 from ⟨by decide +kernel, rfl⟩) (by decide) (fun h => ?_) (fun h => ?_)
    · refine J_iinc (1 : Int32) [some (.ref x0), some (.int x1), some (.int x2), some (.int x3), some (.int (x4 + (1 : Int32))), some (.int x5), some (.int r6.1)] (show Dc Y_X12_soonest 57 (.iinc 4 1) 3 60 from ⟨by decide +kernel, rfl⟩) rfl rfl (by decide) rfl rfl ?_
      refine J_iload rfl (show Dc Y_X12_soonest 60 (.iload 6) 2 62 from ⟨by decide +kernel, rfl⟩) ?_
      refine J_iload_n rfl rfl (show Dc Y_X12_soonest 62 (.iload_n 3) 1 63 from ⟨by decide +kernel, rfl⟩) ?_
      refine J_icmp_lt (tg := 69) (show Dc Y_X12_soonest 63 (.if_icmp .lt 6) 3 66 from ⟨by decide +kernel, rfl⟩) (by decide) (fun h => ?_) (fun h => ?_)
      · refine J_iload rfl (show Dc Y_X12_soonest 69 (.iload 5) 2 71 from ⟨by decide +kernel, rfl⟩) ?_
        refine J_istore_n [some (.ref x0), some (.int x1), some (.int x5), some (.int x3), some (.int (x4 + (1 : Int32))), some (.int x5), some (.int r6.1)] (show Dc Y_X12_soonest 71 (.istore_n 2) 1 72 from ⟨by decide +kernel, rfl⟩) rfl (by decide) rfl rfl ?_
        refine J_iload rfl (show Dc Y_X12_soonest 72 (.iload 6) 2 74 from ⟨by decide +kernel, rfl⟩) ?_
        refine J_istore_n [some (.ref x0), some (.int x1), some (.int x5), some (.int r6.1), some (.int (x4 + (1 : Int32))), some (.int x5), some (.int r6.1)] (show Dc Y_X12_soonest 74 (.istore_n 3) 1 75 from ⟨by decide +kernel, rfl⟩) rfl (by decide) rfl rfl ?_
        refine J_mask [true, true, true, true, true, true, false] ?_
        exact j_X12_soonest_75 N x0 x1 x5 r6.1 (x4 + (1 : Int32)) x5 r6.2 h0 hL27
      · refine J_goto (tg := 75) (show Dc Y_X12_soonest 66 (.goto 9) 3 69 from ⟨by decide +kernel, rfl⟩) (by decide) ?_
        refine J_mask [true, true, true, true, true, true, false] ?_
        exact j_X12_soonest_75 N x0 x1 x2 x3 (x4 + (1 : Int32)) x5 r6.2 h0 hL27
    · refine J_goto (tg := 75) (show Dc Y_X12_soonest 54 (.goto 21) 3 57 from ⟨by decide +kernel, rfl⟩) (by decide) ?_
      refine J_mask [true, true, true, true, true, true, false] ?_
      exact j_X12_soonest_75 N x0 x1 x2 x3 x4 x5 r6.2 h0 hL27

theorem j_X12_soonest {X : ZX} (N : Nat) (x0 : Nat) (x1 : Int32)   (g : ZS) {K : (Int32 × ZS) → Prop} (h0 : ∀ v g, K (v, g) → xK X (some (.int v)) g) : J Y_X12_soonest X 0 0 0 [some (.ref x0), some (.int x1), none, none, none, none, none] [] g (f_X12_soonest N x0 x1 g) K := by
  unfold f_X12_soonest
  refine J_aload_n rfl rfl (show Dc Y_X12_soonest 0 (.aload_n 0) 1 1 from ⟨by decide +kernel, rfl⟩) ?_
  refine J_iconst (0 : Int32) rfl (show Dc Y_X12_soonest 1 (.iconst 0) 1 2 from ⟨by decide +kernel, rfl⟩) ?_
  refine J_putI (show Dc Y_X12_soonest 2 (.putfield 109) 3 5 from ⟨by decide +kernel, rfl⟩) w_f_RX12_109 rfl rfl (fun g1 => ?_) (fun h => by cases h)
  refine J_iload_n rfl rfl (show Dc Y_X12_soonest 5 (.iload_n 1) 1 6 from ⟨by decide +kernel, rfl⟩) ?_
  refine J_callSi (fun r => r) (fun _ => g1) (show Dc Y_X12_soonest 6 (.invokestatic 244) 3 9 from ⟨by decide +kernel, rfl⟩) w_m_RX12_244 w_st_X12_isWord w_cw_X12_isWord (c_X12_isWord x1 g1) rfl rfl (by decide) (Nat.le_of_ble_eq_true rfl) (by decide) (by decide) (fun v2 => ?_)
  refine J_if_ne (tg := 14) (show Dc Y_X12_soonest 9 (.ifCond .ne 5) 3 12 from ⟨by decide +kernel, rfl⟩) (by decide) (fun h => ?_) (fun h => ?_)
  · refine J_bipush (-2 : Int32) rfl (show Dc Y_X12_soonest 14 (.bipush (-2)) 2 16 from ⟨by decide +kernel, rfl⟩) ?_
    refine J_istore_n [some (.ref x0), some (.int x1), some (.int (-2 : Int32)), none, none, none, none] (show Dc Y_X12_soonest 16 (.istore_n 2) 1 17 from ⟨by decide +kernel, rfl⟩) rfl (by decide) rfl rfl ?_
    refine J_ldcw (1000000 : Int32) w_k_RX12_319 (show Dc Y_X12_soonest 17 (.ldc_w 319) 3 20 from ⟨by decide +kernel, rfl⟩) ?_
    refine J_istore_n [some (.ref x0), some (.int x1), some (.int (-2 : Int32)), some (.int (1000000 : Int32)), none, none, none] (show Dc Y_X12_soonest 20 (.istore_n 3) 1 21 from ⟨by decide +kernel, rfl⟩) rfl (by decide) rfl rfl ?_
    refine J_iconst (0 : Int32) rfl (show Dc Y_X12_soonest 21 (.iconst 0) 1 22 from ⟨by decide +kernel, rfl⟩) ?_
    refine J_istore [some (.ref x0), some (.int x1), some (.int (-2 : Int32)), some (.int (1000000 : Int32)), some (.int (0 : Int32)), none, none] (show Dc Y_X12_soonest 22 (.istore 4) 2 24 from ⟨by decide +kernel, rfl⟩) (by decide) rfl rfl ?_
    refine J_iconst (0 : Int32) rfl (show Dc Y_X12_soonest 24 (.iconst 0) 1 25 from ⟨by decide +kernel, rfl⟩) ?_
    refine J_istore [some (.ref x0), some (.int x1), some (.int (-2 : Int32)), some (.int (1000000 : Int32)), some (.int (0 : Int32)), some (.int (0 : Int32)), none] (show Dc Y_X12_soonest 25 (.istore 5) 2 27 from ⟨by decide +kernel, rfl⟩) (by decide) rfl rfl ?_
    exact J_loop (X := X) (K := K) (uc := fun _ => 0) (us := fun _ => 0) (lf := fun s => [some (.ref x0), some (.int x1), some (.int s.1), some (.int s.2.1), some (.int s.2.2.1), some (.int s.2.2.2.1), none]) (gf := fun s => s.2.2.2.2) (fun s => j_X12_soonest_27 (K := zKl Y_X12_soonest X 27 (fun _ => 0) (fun _ => 0) (fun s => [some (.ref x0), some (.int x1), some (.int s.1), some (.int s.2.1), some (.int s.2.2.1), some (.int s.2.2.2.1), none]) (fun s => s.2.2.2.2) K) N x0 x1 s.1 s.2.1 s.2.2.1 s.2.2.2.1 s.2.2.2.2 h0 (fun s h => h)) N ((-2 : Int32), (1000000 : Int32), (0 : Int32), (0 : Int32), g1)
  · refine J_iconst (-1 : Int32) rfl (show Dc Y_X12_soonest 12 (.iconst (-1)) 1 13 from ⟨by decide +kernel, rfl⟩) ?_
    exact J_reti (show Dc Y_X12_soonest 13 (.ireturn) 1 14 from ⟨by decide +kernel, rfl⟩) rfl (h0 _ _) (by decide) (by decide)

theorem c_X12_soonest {l : Launch} {D : ZD} {B0 : Nat} (N : Nat) (x0 : Nat) (x1 : Int32) (g : ZS) : ∀ r, f_X12_soonest N x0 x1 g = some r → zCt l D B0 yX12_soonest Y_X12_soonest [.ref x0, .int x1] g (some (.int r.1)) r.2 :=
  zCt_ofF (vo := fun r => some (.int r.1)) (so := fun r => r.2) (by decide +kernel) rfl (fun h => by cases h) rfl (Nat.le_of_ble_eq_true rfl) (fun X => j_X12_soonest N x0 x1 g (fun _ _ h => h))

theorem j_X12_saidBits_24 {X : ZX} (N : Nat) (x0 : Nat) (x3 : Int32) (x4 : Int32) (x5 : Int32)   (g : ZS) {K : ((Int32 × Int32) ⊕ (Int32 × ZS)) → Prop} (h0 : ∀ v g, K (.inr (v, g)) → xK X (some (.int v)) g) (hL24 : ∀ s, K (.inl s) → zG Y_X12_saidBits X 0 0 24 [some (.ref x0), none, none, some (.int x3), some (.int s.1), some (.int s.2)] [] g) : J Y_X12_saidBits X 0 0 24 [some (.ref x0), none, none, some (.int x3), some (.int x4), some (.int x5)] [] g (f_X12_saidBits_24 N x0 x3 x4 x5 g) K := by
  unfold f_X12_saidBits_24
  refine J_iload rfl (show Dc Y_X12_saidBits 24 (.iload 5) 2 26 from ⟨by decide +kernel, rfl⟩) ?_
  refine J_iload_n rfl rfl (show Dc Y_X12_saidBits 26 (.iload_n 3) 1 27 from ⟨by decide +kernel, rfl⟩) ?_
  refine J_icmp_ge (tg := 50) (show Dc Y_X12_saidBits 27 (.if_icmp .ge 23) 3 30 from ⟨by decide +kernel, rfl⟩) (by decide) (fun h => ?_) (fun h => ?_)
  · refine J_map (f := Sum.inr) (fun _ h => h) ?_
    refine J_iload rfl (show Dc Y_X12_saidBits 50 (.iload 4) 2 52 from ⟨by decide +kernel, rfl⟩) ?_
    exact J_reti (show Dc Y_X12_saidBits 52 (.ireturn) 1 53 from ⟨by decide +kernel, rfl⟩) rfl (h0 _ _) (by decide) (by decide)
  · refine J_iload rfl (show Dc Y_X12_saidBits 30 (.iload 4) 2 32 from ⟨by decide +kernel, rfl⟩) ?_
    refine J_iconst (1 : Int32) rfl (show Dc Y_X12_saidBits 32 (.iconst 1) 1 33 from ⟨by decide +kernel, rfl⟩) ?_
    refine J_aload_n rfl rfl (show Dc Y_X12_saidBits 33 (.aload_n 0) 1 34 from ⟨by decide +kernel, rfl⟩) ?_
    refine J_getR (show Dc Y_X12_saidBits 34 (.getfield 45) 3 37 from ⟨by decide +kernel, rfl⟩) w_f_RX12_45 rfl (fun v1 => ?_)
    refine J_iload rfl (show Dc Y_X12_saidBits 37 (.iload 5) 2 39 from ⟨by decide +kernel, rfl⟩) ?_
    refine J_iald (show Dc Y_X12_saidBits 39 (.iaload) 1 40 from ⟨by decide +kernel, rfl⟩) (fun v2 => ?_)
    refine J_ishl (show Dc Y_X12_saidBits 40 (.ishl) 1 41 from ⟨by decide +kernel, rfl⟩) ?_
    refine J_ior (show Dc Y_X12_saidBits 41 (.ior) 1 42 from ⟨by decide +kernel, rfl⟩) ?_
    refine J_istore [some (.ref x0), none, none, some (.int x3), some (.int (x4 ||| ((1 : Int32) <<< (v2 &&& 31)))), some (.int x5)] (show Dc Y_X12_saidBits 42 (.istore 4) 2 44 from ⟨by decide +kernel, rfl⟩) (by decide) rfl rfl ?_
    refine J_iinc (1 : Int32) [some (.ref x0), none, none, some (.int x3), some (.int (x4 ||| ((1 : Int32) <<< (v2 &&& 31)))), some (.int (x5 + (1 : Int32)))] (show Dc Y_X12_saidBits 44 (.iinc 5 1) 3 47 from ⟨by decide +kernel, rfl⟩) rfl rfl (by decide) rfl rfl ?_
    refine J_goto (tg := 24) (show Dc Y_X12_saidBits 47 (.goto (-23)) 3 50 from ⟨by decide +kernel, rfl⟩) (by decide) ?_
    exact J_leaf (fun h => hL24 (x4 ||| ((1 : Int32) <<< (v2 &&& 31)), x5 + (1 : Int32)) h)

theorem j_X12_saidBits {X : ZX} (N : Nat) (x0 : Nat) (x1 : Int32) (x2 : Int32)   (g : ZS) {K : (Int32 × ZS) → Prop} (h0 : ∀ v g, K (v, g) → xK X (some (.int v)) g) : J Y_X12_saidBits X 0 0 0 [some (.ref x0), some (.int x1), some (.int x2), none, none, none] [] g (f_X12_saidBits N x0 x1 x2 g) K := by
  unfold f_X12_saidBits
  refine J_iload_n rfl rfl (show Dc Y_X12_saidBits 0 (.iload_n 2) 1 1 from ⟨by decide +kernel, rfl⟩) ?_
  refine J_aload_n rfl rfl (show Dc Y_X12_saidBits 1 (.aload_n 0) 1 2 from ⟨by decide +kernel, rfl⟩) ?_
  refine J_aload_n rfl rfl (show Dc Y_X12_saidBits 2 (.aload_n 0) 1 3 from ⟨by decide +kernel, rfl⟩) ?_
  refine J_getR (show Dc Y_X12_saidBits 3 (.getfield 9) 3 6 from ⟨by decide +kernel, rfl⟩) w_f_RX12_9 rfl (fun v1 => ?_)
  refine J_iload_n rfl rfl (show Dc Y_X12_saidBits 6 (.iload_n 1) 1 7 from ⟨by decide +kernel, rfl⟩) ?_
  refine J_aload_n rfl rfl (show Dc Y_X12_saidBits 7 (.aload_n 0) 1 8 from ⟨by decide +kernel, rfl⟩) ?_
  refine J_getR (show Dc Y_X12_saidBits 8 (.getfield 45) 3 11 from ⟨by decide +kernel, rfl⟩) w_f_RX12_45 rfl (fun v2 => ?_)
  refine J_callVi (fun r => r.1) (fun r => r.2) (show Dc Y_X12_saidBits 11 (.invokevirtual 291) 3 14 from ⟨by decide +kernel, rfl⟩) w_m_RX12_291 w_in_X12_laySays rfl w_se_X12_laySays w_cw_X12_laySays (c_X12_laySays N x0 v1 x1 v2 g) rfl rfl (by decide) (Nat.le_of_ble_eq_true rfl) (by decide) (by decide) (fun r3 => ?_)
  refine J_callSi (fun r => r) (fun _ => r3.2) (show Dc Y_X12_saidBits 14 (.invokestatic 229) 3 17 from ⟨by decide +kernel, rfl⟩) w_m_RX12_229 w_st_J9_min_7cf53 w_cw_J9_min_7cf53 (c_J9_min_7cf53 x2 r3.1 r3.2) rfl rfl (by decide) (Nat.le_of_ble_eq_true rfl) (by decide) (by decide) (fun v4 => ?_)
  refine J_istore_n [some (.ref x0), some (.int x1), some (.int x2), some (.int v4), none, none] (show Dc Y_X12_saidBits 17 (.istore_n 3) 1 18 from ⟨by decide +kernel, rfl⟩) rfl (by decide) rfl rfl ?_
  refine J_iconst (0 : Int32) rfl (show Dc Y_X12_saidBits 18 (.iconst 0) 1 19 from ⟨by decide +kernel, rfl⟩) ?_
  refine J_istore [some (.ref x0), some (.int x1), some (.int x2), some (.int v4), some (.int (0 : Int32)), none] (show Dc Y_X12_saidBits 19 (.istore 4) 2 21 from ⟨by decide +kernel, rfl⟩) (by decide) rfl rfl ?_
  refine J_iconst (0 : Int32) rfl (show Dc Y_X12_saidBits 21 (.iconst 0) 1 22 from ⟨by decide +kernel, rfl⟩) ?_
  refine J_istore [some (.ref x0), some (.int x1), some (.int x2), some (.int v4), some (.int (0 : Int32)), some (.int (0 : Int32))] (show Dc Y_X12_saidBits 22 (.istore 5) 2 24 from ⟨by decide +kernel, rfl⟩) (by decide) rfl rfl ?_
  refine J_mask [true, false, false, true, true, true] ?_
  exact J_loop (X := X) (K := K) (uc := fun _ => 0) (us := fun _ => 0) (lf := fun s => [some (.ref x0), none, none, some (.int v4), some (.int s.1), some (.int s.2)]) (gf := fun s => r3.2) (fun s => j_X12_saidBits_24 (K := zKl Y_X12_saidBits X 24 (fun _ => 0) (fun _ => 0) (fun s => [some (.ref x0), none, none, some (.int v4), some (.int s.1), some (.int s.2)]) (fun s => r3.2) K) N x0 v4 s.1 s.2 r3.2 h0 (fun s h => h)) N ((0 : Int32), (0 : Int32))

theorem c_X12_saidBits {l : Launch} {D : ZD} {B0 : Nat} (N : Nat) (x0 : Nat) (x1 : Int32) (x2 : Int32) (g : ZS) : ∀ r, f_X12_saidBits N x0 x1 x2 g = some r → zCt l D B0 yX12_saidBits Y_X12_saidBits [.ref x0, .int x1, .int x2] g (some (.int r.1)) r.2 :=
  zCt_ofF (vo := fun r => some (.int r.1)) (so := fun r => r.2) (by decide +kernel) rfl (fun h => by cases h) rfl (Nat.le_of_ble_eq_true rfl) (fun X => j_X12_saidBits N x0 x1 x2 g (fun _ _ h => h))

theorem j_X12_unsaid_11 {X : ZX} (N : Nat) (x0 : Nat) (x1 : Int32) (x2 : Int32) (x3 : Int32)   (g : ZS) {K : ((Int32 × Int32 × Int32 × ZS) ⊕ (Int32 × ZS)) → Prop} (h0 : ∀ v g, K (.inr (v, g)) → xK X (some (.int v)) g) (hL11 : ∀ s, K (.inl s) → zG Y_X12_unsaid X 0 0 11 [some (.ref x0), some (.int s.1), some (.int s.2.1), some (.int s.2.2.1)] [] s.2.2.2) : J Y_X12_unsaid X 0 0 11 [some (.ref x0), some (.int x1), some (.int x2), some (.int x3)] [] g (f_X12_unsaid_11 N x0 x1 x2 x3 g) K := by
  unfold f_X12_unsaid_11
  refine J_iload_n rfl rfl (show Dc Y_X12_unsaid 11 (.iload_n 3) 1 12 from ⟨by decide +kernel, rfl⟩) ?_
  refine J_aload_n rfl rfl (show Dc Y_X12_unsaid 12 (.aload_n 0) 1 13 from ⟨by decide +kernel, rfl⟩) ?_
  refine J_getI (show Dc Y_X12_unsaid 13 (.getfield 116) 3 16 from ⟨by decide +kernel, rfl⟩) w_f_RX12_116 rfl (fun v1 => ?_)
  refine J_icmp_ge (tg := 46) (show Dc Y_X12_unsaid 16 (.if_icmp .ge 30) 3 19 from ⟨by decide +kernel, rfl⟩) (by decide) (fun h => ?_) (fun h => ?_)
  · refine J_map (f := Sum.inr) (fun _ h => h) ?_
    refine J_aload_n rfl rfl (show Dc Y_X12_unsaid 46 (.aload_n 0) 1 47 from ⟨by decide +kernel, rfl⟩) ?_
    refine J_iconst (0 : Int32) rfl (show Dc Y_X12_unsaid 47 (.iconst 0) 1 48 from ⟨by decide +kernel, rfl⟩) ?_
    refine J_putI (show Dc Y_X12_unsaid 48 (.putfield 113) 3 51 from ⟨by decide +kernel, rfl⟩) w_f_RX12_113 rfl rfl (fun g2 => ?_) (fun h => by cases h)
    refine J_aload_n rfl rfl (show Dc Y_X12_unsaid 51 (.aload_n 0) 1 52 from ⟨by decide +kernel, rfl⟩) ?_
    refine J_sipush (255 : Int32) rfl (show Dc Y_X12_unsaid 52 (.sipush 255) 3 55 from ⟨by decide +kernel, rfl⟩) ?_
    refine J_iload_n rfl rfl (show Dc Y_X12_unsaid 55 (.iload_n 2) 1 56 from ⟨by decide +kernel, rfl⟩) ?_
    refine J_iconst (-1 : Int32) rfl (show Dc Y_X12_unsaid 56 (.iconst (-1)) 1 57 from ⟨by decide +kernel, rfl⟩) ?_
    refine J_ixor (show Dc Y_X12_unsaid 57 (.ixor) 1 58 from ⟨by decide +kernel, rfl⟩) ?_
    refine J_iand (show Dc Y_X12_unsaid 58 (.iand) 1 59 from ⟨by decide +kernel, rfl⟩) ?_
    refine J_i2l (show Dc Y_X12_unsaid 59 (.i2l) 1 60 from ⟨by decide +kernel, rfl⟩) ?_
    refine J_callVv (fun r => r) (show Dc Y_X12_unsaid 60 (.invokevirtual 274) 3 63 from ⟨by decide +kernel, rfl⟩) w_m_RX12_274 w_in_X12_tell rfl w_se_X12_tell w_cw_X12_tell (c_X12_tell x0 (((255 : Int32) &&& (x2 ^^^ (-1 : Int32))).toInt64) g2) rfl rfl (by decide) (Nat.le_of_ble_eq_true rfl) (by decide) (by decide) (fun g3 => ?_)
    refine J_sipush (255 : Int32) rfl (show Dc Y_X12_unsaid 63 (.sipush 255) 3 66 from ⟨by decide +kernel, rfl⟩) ?_
    refine J_iload_n rfl rfl (show Dc Y_X12_unsaid 66 (.iload_n 1) 1 67 from ⟨by decide +kernel, rfl⟩) ?_
    refine J_iconst (-1 : Int32) rfl (show Dc Y_X12_unsaid 67 (.iconst (-1)) 1 68 from ⟨by decide +kernel, rfl⟩) ?_
    refine J_ixor (show Dc Y_X12_unsaid 68 (.ixor) 1 69 from ⟨by decide +kernel, rfl⟩) ?_
    refine J_iand (show Dc Y_X12_unsaid 69 (.iand) 1 70 from ⟨by decide +kernel, rfl⟩) ?_
    exact J_reti (show Dc Y_X12_unsaid 70 (.ireturn) 1 71 from ⟨by decide +kernel, rfl⟩) rfl (h0 _ _) (by decide) (by decide)
  · refine J_iload_n rfl rfl (show Dc Y_X12_unsaid 19 (.iload_n 1) 1 20 from ⟨by decide +kernel, rfl⟩) ?_
    refine J_aload_n rfl rfl (show Dc Y_X12_unsaid 20 (.aload_n 0) 1 21 from ⟨by decide +kernel, rfl⟩) ?_
    refine J_iload_n rfl rfl (show Dc Y_X12_unsaid 21 (.iload_n 3) 1 22 from ⟨by decide +kernel, rfl⟩) ?_
    refine J_bipush (8 : Int32) rfl (show Dc Y_X12_unsaid 22 (.bipush 8) 2 24 from ⟨by decide +kernel, rfl⟩) ?_
    refine J_callVi (fun r => r.1) (fun r => r.2) (show Dc Y_X12_unsaid 24 (.invokevirtual 320) 3 27 from ⟨by decide +kernel, rfl⟩) w_m_RX12_320 w_in_X12_saidBits rfl w_se_X12_saidBits w_cw_X12_saidBits (c_X12_saidBits N x0 x3 (8 : Int32) g) rfl rfl (by decide) (Nat.le_of_ble_eq_true rfl) (by decide) (by decide) (fun r4 => ?_)
    refine J_ior (show Dc Y_X12_unsaid 27 (.ior) 1 28 from ⟨by decide +kernel, rfl⟩) ?_
    refine J_istore_n [some (.ref x0), some (.int (x1 ||| r4.1)), some (.int x2), some (.int x3)] (show Dc Y_X12_unsaid 28 (.istore_n 1) 1 29 from ⟨by decide +kernel, rfl⟩) rfl (by decide) rfl rfl ?_
    refine J_iload_n rfl rfl (show Dc Y_X12_unsaid 29 (.iload_n 2) 1 30 from ⟨by decide +kernel, rfl⟩) ?_
    refine J_aload_n rfl rfl (show Dc Y_X12_unsaid 30 (.aload_n 0) 1 31 from ⟨by decide +kernel, rfl⟩) ?_
    refine J_getR (show Dc Y_X12_unsaid 31 (.getfield 9) 3 34 from ⟨by decide +kernel, rfl⟩) w_f_RX12_9 rfl (fun v5 => ?_)
    refine J_iload_n rfl rfl (show Dc Y_X12_unsaid 34 (.iload_n 3) 1 35 from ⟨by decide +kernel, rfl⟩) ?_
    refine J_callSi (fun r => r) (fun _ => r4.2) (show Dc Y_X12_unsaid 35 (.invokestatic 240) 3 38 from ⟨by decide +kernel, rfl⟩) w_m_RX12_240 w_st_X12_heardBits w_cw_X12_heardBits (c_X12_heardBits N v5 x3 r4.2) rfl rfl (by decide) (Nat.le_of_ble_eq_true rfl) (by decide) (by decide) (fun v6 => ?_)
    refine J_ior (show Dc Y_X12_unsaid 38 (.ior) 1 39 from ⟨by decide +kernel, rfl⟩) ?_
    refine J_istore_n [some (.ref x0), some (.int (x1 ||| r4.1)), some (.int (x2 ||| v6)), some (.int x3)] (show Dc Y_X12_unsaid 39 (.istore_n 2) 1 40 from ⟨by decide +kernel, rfl⟩) rfl (by decide) rfl rfl ?_
    refine J_iinc (1 : Int32) [some (.ref x0), some (.int (x1 ||| r4.1)), some (.int (x2 ||| v6)), some (.int (x3 + (1 : Int32)))] (show Dc Y_X12_unsaid 40 (.iinc 3 1) 3 43 from ⟨by decide +kernel, rfl⟩) rfl rfl (by decide) rfl rfl ?_
    refine J_goto (tg := 11) (show Dc Y_X12_unsaid 43 (.goto (-32)) 3 46 from ⟨by decide +kernel, rfl⟩) (by decide) ?_
    exact J_leaf (fun h => hL11 (x1 ||| r4.1, x2 ||| v6, x3 + (1 : Int32), r4.2) h)

theorem j_X12_unsaid {X : ZX} (N : Nat) (x0 : Nat)   (g : ZS) {K : (Int32 × ZS) → Prop} (h0 : ∀ v g, K (v, g) → xK X (some (.int v)) g) : J Y_X12_unsaid X 0 0 0 [some (.ref x0), none, none, none] [] g (f_X12_unsaid N x0 g) K := by
  unfold f_X12_unsaid
  refine J_aload_n rfl rfl (show Dc Y_X12_unsaid 0 (.aload_n 0) 1 1 from ⟨by decide +kernel, rfl⟩) ?_
  refine J_iconst (0 : Int32) rfl (show Dc Y_X12_unsaid 1 (.iconst 0) 1 2 from ⟨by decide +kernel, rfl⟩) ?_
  refine J_putI (show Dc Y_X12_unsaid 2 (.putfield 109) 3 5 from ⟨by decide +kernel, rfl⟩) w_f_RX12_109 rfl rfl (fun g1 => ?_) (fun h => by cases h)
  refine J_iconst (0 : Int32) rfl (show Dc Y_X12_unsaid 5 (.iconst 0) 1 6 from ⟨by decide +kernel, rfl⟩) ?_
  refine J_istore_n [some (.ref x0), some (.int (0 : Int32)), none, none] (show Dc Y_X12_unsaid 6 (.istore_n 1) 1 7 from ⟨by decide +kernel, rfl⟩) rfl (by decide) rfl rfl ?_
  refine J_iconst (0 : Int32) rfl (show Dc Y_X12_unsaid 7 (.iconst 0) 1 8 from ⟨by decide +kernel, rfl⟩) ?_
  refine J_istore_n [some (.ref x0), some (.int (0 : Int32)), some (.int (0 : Int32)), none] (show Dc Y_X12_unsaid 8 (.istore_n 2) 1 9 from ⟨by decide +kernel, rfl⟩) rfl (by decide) rfl rfl ?_
  refine J_iconst (0 : Int32) rfl (show Dc Y_X12_unsaid 9 (.iconst 0) 1 10 from ⟨by decide +kernel, rfl⟩) ?_
  refine J_istore_n [some (.ref x0), some (.int (0 : Int32)), some (.int (0 : Int32)), some (.int (0 : Int32))] (show Dc Y_X12_unsaid 10 (.istore_n 3) 1 11 from ⟨by decide +kernel, rfl⟩) rfl (by decide) rfl rfl ?_
  exact J_loop (X := X) (K := K) (uc := fun _ => 0) (us := fun _ => 0) (lf := fun s => [some (.ref x0), some (.int s.1), some (.int s.2.1), some (.int s.2.2.1)]) (gf := fun s => s.2.2.2) (fun s => j_X12_unsaid_11 (K := zKl Y_X12_unsaid X 11 (fun _ => 0) (fun _ => 0) (fun s => [some (.ref x0), some (.int s.1), some (.int s.2.1), some (.int s.2.2.1)]) (fun s => s.2.2.2) K) N x0 s.1 s.2.1 s.2.2.1 s.2.2.2 h0 (fun s h => h)) N ((0 : Int32), (0 : Int32), (0 : Int32), g1)

theorem c_X12_unsaid {l : Launch} {D : ZD} {B0 : Nat} (N : Nat) (x0 : Nat) (g : ZS) : ∀ r, f_X12_unsaid N x0 g = some r → zCt l D B0 yX12_unsaid Y_X12_unsaid [.ref x0] g (some (.int r.1)) r.2 :=
  zCt_ofF (vo := fun r => some (.int r.1)) (so := fun r => r.2) (by decide +kernel) rfl (fun h => by cases h) rfl (Nat.le_of_ble_eq_true rfl) (fun X => j_X12_unsaid N x0 g (fun _ _ h => h))

theorem j_X12_later_23 {X : ZX} (N : Nat)    (g : ZS) {K : (Int32 × ZS) → Prop} (h0 : ∀ v g, K (v, g) → xK X (some (.int v)) g) : J Y_X12_later X 0 0 23 [none, none, none, none] [] g (f_X12_later_23 N g) K := by
  unfold f_X12_later_23
  refine J_iconst (-1 : Int32) rfl (show Dc Y_X12_later 23 (.iconst (-1)) 1 24 from ⟨by decide +kernel, rfl⟩) ?_
  exact J_reti (show Dc Y_X12_later 24 (.ireturn) 1 25 from ⟨by decide +kernel, rfl⟩) rfl (h0 _ _) (by decide) (by decide)

theorem j_X12_later {X : ZX} (N : Nat) (x0 : Nat) (x1 : Int32) (x2 : Int32)   (g : ZS) {K : (Int32 × ZS) → Prop} (h0 : ∀ v g, K (v, g) → xK X (some (.int v)) g) : J Y_X12_later X 0 0 0 [some (.ref x0), some (.int x1), some (.int x2), none] [] g (f_X12_later N x0 x1 x2 g) K := by
  unfold f_X12_later
  refine J_aload_n rfl rfl (show Dc Y_X12_later 0 (.aload_n 0) 1 1 from ⟨by decide +kernel, rfl⟩) ?_
  refine J_iconst (0 : Int32) rfl (show Dc Y_X12_later 1 (.iconst 0) 1 2 from ⟨by decide +kernel, rfl⟩) ?_
  refine J_putI (show Dc Y_X12_later 2 (.putfield 109) 3 5 from ⟨by decide +kernel, rfl⟩) w_f_RX12_109 rfl rfl (fun g1 => ?_) (fun h => by cases h)
  refine J_aload_n rfl rfl (show Dc Y_X12_later 5 (.aload_n 0) 1 6 from ⟨by decide +kernel, rfl⟩) ?_
  refine J_iload_n rfl rfl (show Dc Y_X12_later 6 (.iload_n 1) 1 7 from ⟨by decide +kernel, rfl⟩) ?_
  refine J_callVi (fun r => r) (fun _ => g1) (show Dc Y_X12_later 7 (.invokevirtual 234) 3 10 from ⟨by decide +kernel, rfl⟩) w_m_RX12_234 w_in_X12_isParrot rfl w_se_X12_isParrot w_cw_X12_isParrot (c_X12_isParrot x0 x1 g1) rfl rfl (by decide) (Nat.le_of_ble_eq_true rfl) (by decide) (by decide) (fun v2 => ?_)
  refine J_if_eq (tg := 23) (show Dc Y_X12_later 10 (.ifCond .eq 13) 3 13 from ⟨by decide +kernel, rfl⟩) (by decide) (fun h => ?_) (fun h => ?_)
  · refine J_mask [false, false, false, false] ?_
    exact j_X12_later_23 N g1 h0
  · refine J_iload_n rfl rfl (show Dc Y_X12_later 13 (.iload_n 2) 1 14 from ⟨by decide +kernel, rfl⟩) ?_
    refine J_iconst (0 : Int32) rfl (show Dc Y_X12_later 14 (.iconst 0) 1 15 from ⟨by decide +kernel, rfl⟩) ?_
    refine J_bipush (60 : Int32) rfl (show Dc Y_X12_later 15 (.bipush 60) 2 17 from ⟨by decide +kernel, rfl⟩) ?_
    refine J_callSi (fun r => r) (fun _ => g1) (show Dc Y_X12_later 17 (.invokestatic 119) 3 20 from ⟨by decide +kernel, rfl⟩) w_m_RX12_119 w_st_X12_in w_cw_X12_in (c_X12_in x2 (0 : Int32) (60 : Int32) g1) rfl rfl (by decide) (Nat.le_of_ble_eq_true rfl) (by decide) (by decide) (fun v3 => ?_)
    refine J_if_ne (tg := 25) (show Dc Y_X12_later 20 (.ifCond .ne 5) 3 23 from ⟨by decide +kernel, rfl⟩) (by decide) (fun h => ?_) (fun h => ?_)
    · refine J_aload_n rfl rfl (show Dc Y_X12_later 25 (.aload_n 0) 1 26 from ⟨by decide +kernel, rfl⟩) ?_
      refine J_getR (show Dc Y_X12_later 26 (.getfield 9) 3 29 from ⟨by decide +kernel, rfl⟩) w_f_RX12_9 rfl (fun v4 => ?_)
      refine J_aload_n rfl rfl (show Dc Y_X12_later 29 (.aload_n 0) 1 30 from ⟨by decide +kernel, rfl⟩) ?_
      refine J_getR (show Dc Y_X12_later 30 (.getfield 60) 3 33 from ⟨by decide +kernel, rfl⟩) w_f_RX12_60 rfl (fun v5 => ?_)
      refine J_iconst (0 : Int32) rfl (show Dc Y_X12_later 33 (.iconst 0) 1 34 from ⟨by decide +kernel, rfl⟩) ?_
      refine J_callSv (fun r => r) (show Dc Y_X12_later 34 (.invokestatic 253) 3 37 from ⟨by decide +kernel, rfl⟩) w_m_RX12_253 w_st_X12_lay w_cw_X12_lay (c_X12_lay N v4 v5 (0 : Int32) g1) rfl rfl (by decide) (Nat.le_of_ble_eq_true rfl) (by decide) (by decide) (fun g6 => ?_)
      refine J_aload_n rfl rfl (show Dc Y_X12_later 37 (.aload_n 0) 1 38 from ⟨by decide +kernel, rfl⟩) ?_
      refine J_aload_n rfl rfl (show Dc Y_X12_later 38 (.aload_n 0) 1 39 from ⟨by decide +kernel, rfl⟩) ?_
      refine J_getR (show Dc Y_X12_later 39 (.getfield 60) 3 42 from ⟨by decide +kernel, rfl⟩) w_f_RX12_60 rfl (fun v7 => ?_)
      refine J_iload_n rfl rfl (show Dc Y_X12_later 42 (.iload_n 2) 1 43 from ⟨by decide +kernel, rfl⟩) ?_
      refine J_callVv (fun r => r) (show Dc Y_X12_later 43 (.invokevirtual 265) 3 46 from ⟨by decide +kernel, rfl⟩) w_m_RX12_265 w_in_X12_goDays rfl w_se_X12_goDays w_cw_X12_goDays (c_X12_goDays N x0 v7 x2 g6) rfl rfl (by decide) (Nat.le_of_ble_eq_true rfl) (by decide) (by decide) (fun g8 => ?_)
      refine J_aload_n rfl rfl (show Dc Y_X12_later 46 (.aload_n 0) 1 47 from ⟨by decide +kernel, rfl⟩) ?_
      refine J_aload_n rfl rfl (show Dc Y_X12_later 47 (.aload_n 0) 1 48 from ⟨by decide +kernel, rfl⟩) ?_
      refine J_getR (show Dc Y_X12_later 48 (.getfield 60) 3 51 from ⟨by decide +kernel, rfl⟩) w_f_RX12_60 rfl (fun v9 => ?_)
      refine J_iload_n rfl rfl (show Dc Y_X12_later 51 (.iload_n 1) 1 52 from ⟨by decide +kernel, rfl⟩) ?_
      refine J_aload_n rfl rfl (show Dc Y_X12_later 52 (.aload_n 0) 1 53 from ⟨by decide +kernel, rfl⟩) ?_
      refine J_getR (show Dc Y_X12_later 53 (.getfield 45) 3 56 from ⟨by decide +kernel, rfl⟩) w_f_RX12_45 rfl (fun v10 => ?_)
      refine J_callVi (fun r => r.1) (fun r => r.2) (show Dc Y_X12_later 56 (.invokevirtual 291) 3 59 from ⟨by decide +kernel, rfl⟩) w_m_RX12_291 w_in_X12_laySays rfl w_se_X12_laySays w_cw_X12_laySays (c_X12_laySays N x0 v9 x1 v10 g8) rfl rfl (by decide) (Nat.le_of_ble_eq_true rfl) (by decide) (by decide) (fun r11 => ?_)
      refine J_istore_n [some (.ref x0), some (.int x1), some (.int x2), some (.int r11.1)] (show Dc Y_X12_later 59 (.istore_n 3) 1 60 from ⟨by decide +kernel, rfl⟩) rfl (by decide) rfl rfl ?_
      refine J_aload_n rfl rfl (show Dc Y_X12_later 60 (.aload_n 0) 1 61 from ⟨by decide +kernel, rfl⟩) ?_
      refine J_aload_n rfl rfl (show Dc Y_X12_later 61 (.aload_n 0) 1 62 from ⟨by decide +kernel, rfl⟩) ?_
      refine J_getR (show Dc Y_X12_later 62 (.getfield 45) 3 65 from ⟨by decide +kernel, rfl⟩) w_f_RX12_45 rfl (fun v12 => ?_)
      refine J_iload_n rfl rfl (show Dc Y_X12_later 65 (.iload_n 3) 1 66 from ⟨by decide +kernel, rfl⟩) ?_
      refine J_callVv (fun r => r) (show Dc Y_X12_later 66 (.invokevirtual 313) 3 69 from ⟨by decide +kernel, rfl⟩) w_m_RX12_313 w_in_X12_tellList rfl w_se_X12_tellList w_cw_X12_tellList (c_X12_tellList N x0 v12 r11.1 r11.2) rfl rfl (by decide) (Nat.le_of_ble_eq_true rfl) (by decide) (by decide) (fun g13 => ?_)
      refine J_iload_n rfl rfl (show Dc Y_X12_later 69 (.iload_n 3) 1 70 from ⟨by decide +kernel, rfl⟩) ?_
      exact J_reti (show Dc Y_X12_later 70 (.ireturn) 1 71 from ⟨by decide +kernel, rfl⟩) rfl (h0 _ _) (by decide) (by decide)
    · refine J_mask [false, false, false, false] ?_
      exact j_X12_later_23 N g1 h0

theorem c_X12_later {l : Launch} {D : ZD} {B0 : Nat} (N : Nat) (x0 : Nat) (x1 : Int32) (x2 : Int32) (g : ZS) : ∀ r, f_X12_later N x0 x1 x2 g = some r → zCt l D B0 yX12_later Y_X12_later [.ref x0, .int x1, .int x2] g (some (.int r.1)) r.2 :=
  zCt_ofF (vo := fun r => some (.int r.1)) (so := fun r => r.2) (by decide +kernel) rfl (fun h => by cases h) rfl (Nat.le_of_ble_eq_true rfl) (fun X => j_X12_later N x0 x1 x2 g (fun _ _ h => h))

theorem j_X12_alters_162 {X : ZX} (N : Nat) (x3 : Int32) (s0 : Nat) (s1 : Int64)  (g : ZS) {K : (Int32 × ZS) → Prop} (h0 : ∀ v g, K (v, g) → xK X (some (.int v)) g) : J Y_X12_alters X 0 0 162 [none, none, none, some (.int x3), none, none] [.long s1, .ref s0] g (f_X12_alters_162 N x3 s0 s1 g) K := by
  unfold f_X12_alters_162
  refine J_callVv (fun r => r) (show Dc Y_X12_alters 162 (.invokevirtual 274) 3 165 from ⟨by decide +kernel, rfl⟩) w_m_RX12_274 w_in_X12_tell rfl w_se_X12_tell w_cw_X12_tell (c_X12_tell s0 s1 g) rfl rfl (by decide) (Nat.le_of_ble_eq_true rfl) (by decide) (by decide) (fun g1 => ?_)
  refine J_iload_n rfl rfl (show Dc Y_X12_alters 165 (.iload_n 3) 1 166 from ⟨by decide +kernel, rfl⟩) ?_
  exact J_reti (show Dc Y_X12_alters 166 (.ireturn) 1 167 from ⟨by decide +kernel, rfl⟩) rfl (h0 _ _) (by decide) (by decide)

theorem j_X12_alters_128 {X : ZX} (N : Nat) (x0 : Nat) (x3 : Int32) (x4 : Int32) (x5 : Int32)   (g : ZS) {K : (Int32 × ZS) → Prop} (h0 : ∀ v g, K (v, g) → xK X (some (.int v)) g) : J Y_X12_alters X 0 0 128 [some (.ref x0), none, none, some (.int x3), some (.int x4), some (.int x5)] [] g (f_X12_alters_128 N x0 x3 x4 x5 g) K := by
  unfold f_X12_alters_128
  refine J_aload_n rfl rfl (show Dc Y_X12_alters 128 (.aload_n 0) 1 129 from ⟨by decide +kernel, rfl⟩) ?_
  refine J_iconst (0 : Int32) rfl (show Dc Y_X12_alters 129 (.iconst 0) 1 130 from ⟨by decide +kernel, rfl⟩) ?_
  refine J_putI (show Dc Y_X12_alters 130 (.putfield 113) 3 133 from ⟨by decide +kernel, rfl⟩) w_f_RX12_113 rfl rfl (fun g1 => ?_) (fun h => by cases h)
  refine J_aload_n rfl rfl (show Dc Y_X12_alters 133 (.aload_n 0) 1 134 from ⟨by decide +kernel, rfl⟩) ?_
  refine J_iload rfl (show Dc Y_X12_alters 134 (.iload 5) 2 136 from ⟨by decide +kernel, rfl⟩) ?_
  refine J_i2l (show Dc Y_X12_alters 136 (.i2l) 1 137 from ⟨by decide +kernel, rfl⟩) ?_
  refine J_callVv (fun r => r) (show Dc Y_X12_alters 137 (.invokevirtual 274) 3 140 from ⟨by decide +kernel, rfl⟩) w_m_RX12_274 w_in_X12_tell rfl w_se_X12_tell w_cw_X12_tell (c_X12_tell x0 x5.toInt64 g1) rfl rfl (by decide) (Nat.le_of_ble_eq_true rfl) (by decide) (by decide) (fun g2 => ?_)
  refine J_aload_n rfl rfl (show Dc Y_X12_alters 140 (.aload_n 0) 1 141 from ⟨by decide +kernel, rfl⟩) ?_
  refine J_iload rfl (show Dc Y_X12_alters 141 (.iload 5) 2 143 from ⟨by decide +kernel, rfl⟩) ?_
  refine J_iload rfl (show Dc Y_X12_alters 143 (.iload 4) 2 145 from ⟨by decide +kernel, rfl⟩) ?_
  refine J_icmp_ge (tg := 159) (show Dc Y_X12_alters 145 (.if_icmp .ge 14) 3 148 from ⟨by decide +kernel, rfl⟩) (by decide) (fun h => ?_) (fun h => ?_)
  · refine J_ldc2 (-1 : Int64) w_kl_RX12_323 (show Dc Y_X12_alters 159 (.ldc2_w 323) 3 162 from ⟨by decide +kernel, rfl⟩) ?_
    refine J_mask [false, false, false, true, false, false] ?_
    exact j_X12_alters_162 N x3 x0 (-1 : Int64) g2 h0
  · refine J_aload_n rfl rfl (show Dc Y_X12_alters 148 (.aload_n 0) 1 149 from ⟨by decide +kernel, rfl⟩) ?_
    refine J_getR (show Dc Y_X12_alters 149 (.getfield 45) 3 152 from ⟨by decide +kernel, rfl⟩) w_f_RX12_45 rfl (fun v3 => ?_)
    refine J_iload rfl (show Dc Y_X12_alters 152 (.iload 5) 2 154 from ⟨by decide +kernel, rfl⟩) ?_
    refine J_iald (show Dc Y_X12_alters 154 (.iaload) 1 155 from ⟨by decide +kernel, rfl⟩) (fun v4 => ?_)
    refine J_i2l (show Dc Y_X12_alters 155 (.i2l) 1 156 from ⟨by decide +kernel, rfl⟩) ?_
    refine J_goto (tg := 162) (show Dc Y_X12_alters 156 (.goto 6) 3 159 from ⟨by decide +kernel, rfl⟩) (by decide) ?_
    refine J_mask [false, false, false, true, false, false] ?_
    exact j_X12_alters_162 N x3 x0 v4.toInt64 g2 h0

theorem j_X12_alters_112 {X : ZX} (N : Nat) (x0 : Nat) (x1 : Int32) (x2 : Int32) (x3 : Int32) (x4 : Int32) (x5 : Int32)   (g : ZS) {K : ((Int32 × ZS) ⊕ (Int32 × ZS)) → Prop} (h0 : ∀ v g, K (.inr (v, g)) → xK X (some (.int v)) g) (hL43 : ∀ s, K (.inl s) → zG Y_X12_alters X 0 0 43 [some (.ref x0), some (.int x1), some (.int x2), some (.int s.1), none, none] [] s.2) : J Y_X12_alters X 0 0 112 [some (.ref x0), some (.int x1), some (.int x2), some (.int x3), some (.int x4), some (.int x5)] [] g (f_X12_alters_112 N x0 x1 x2 x3 x4 x5 g) K := by
  unfold f_X12_alters_112
  refine J_iload rfl (show Dc Y_X12_alters 112 (.iload 5) 2 114 from ⟨by decide +kernel, rfl⟩) ?_
  refine J_iload_n rfl rfl (show Dc Y_X12_alters 114 (.iload_n 2) 1 115 from ⟨by decide +kernel, rfl⟩) ?_
  refine J_icmp_ne (tg := 128) (show Dc Y_X12_alters 115 (.if_icmp .ne 13) 3 118 from ⟨by decide +kernel, rfl⟩) (by decide) (fun h => ?_) (fun h => ?_)
  · refine J_mask [true, false, false, true, true, true] ?_
    refine J_map (f := Sum.inr) (fun _ h => h) ?_
    exact j_X12_alters_128 (K := fun o => K (.inr o)) N x0 x3 x4 x5 g h0
  · refine J_iload rfl (show Dc Y_X12_alters 118 (.iload 5) 2 120 from ⟨by decide +kernel, rfl⟩) ?_
    refine J_iload rfl (show Dc Y_X12_alters 120 (.iload 4) 2 122 from ⟨by decide +kernel, rfl⟩) ?_
    refine J_icmp_ne (tg := 128) (show Dc Y_X12_alters 122 (.if_icmp .ne 6) 3 125 from ⟨by decide +kernel, rfl⟩) (by decide) (fun h => ?_) (fun h => ?_)
    · refine J_mask [true, false, false, true, true, true] ?_
      refine J_map (f := Sum.inr) (fun _ h => h) ?_
      exact j_X12_alters_128 (K := fun o => K (.inr o)) N x0 x3 x4 x5 g h0
    · refine J_goto (tg := 167) (show Dc Y_X12_alters 125 (.goto 42) 3 128 from ⟨by decide +kernel, rfl⟩) (by decide) ?_
      refine J_iinc (1 : Int32) [some (.ref x0), some (.int x1), some (.int x2), some (.int (x3 + (1 : Int32))), some (.int x4), some (.int x5)] (show Dc Y_X12_alters 167 (.iinc 3 1) 3 170 from ⟨by decide +kernel, rfl⟩) rfl rfl (by decide) rfl rfl ?_
      refine J_goto (tg := 43) (show Dc Y_X12_alters 170 (.goto (-127)) 3 173 from ⟨by decide +kernel, rfl⟩) (by decide) ?_
      refine J_mask [true, true, true, true, false, false] ?_
      exact J_leaf (fun h => hL43 (x3 + (1 : Int32), g) h)

theorem j_X12_alters_76 {X : ZX} (N : Nat) (x0 : Nat) (x1 : Int32) (x2 : Int32) (x3 : Int32) (x4 : Int32) (x5 : Int32)   (g : ZS) {K : ((Int32) ⊕ ((Int32 × ZS) ⊕ (Int32 × ZS))) → Prop} (h0 : ∀ v g, K (.inr (.inr (v, g))) → xK X (some (.int v)) g) (hL43 : ∀ s, K (.inr (.inl s)) → zG Y_X12_alters X 0 0 43 [some (.ref x0), some (.int x1), some (.int x2), some (.int s.1), none, none] [] s.2) (hL76 : ∀ s, K (.inl s) → zG Y_X12_alters X 0 0 76 [some (.ref x0), some (.int x1), some (.int x2), some (.int x3), some (.int x4), some (.int s)] [] g) : J Y_X12_alters X 0 0 76 [some (.ref x0), some (.int x1), some (.int x2), some (.int x3), some (.int x4), some (.int x5)] [] g (f_X12_alters_76 N x0 x1 x2 x3 x4 x5 g) K := by
  unfold f_X12_alters_76
  refine J_iload rfl (show Dc Y_X12_alters 76 (.iload 5) 2 78 from ⟨by decide +kernel, rfl⟩) ?_
  refine J_iload_n rfl rfl (show Dc Y_X12_alters 78 (.iload_n 2) 1 79 from ⟨by decide +kernel, rfl⟩) ?_
  refine J_icmp_ge (tg := 112) (show Dc Y_X12_alters 79 (.if_icmp .ge 33) 3 82 from ⟨by decide +kernel, rfl⟩) (by decide) (fun h => ?_) (fun h => ?_)
  · refine J_map (f := Sum.inr) (fun _ h => h) ?_
    exact j_X12_alters_112 (K := fun o => K (.inr o)) N x0 x1 x2 x3 x4 x5 g h0 hL43
  · refine J_iload rfl (show Dc Y_X12_alters 82 (.iload 5) 2 84 from ⟨by decide +kernel, rfl⟩) ?_
    refine J_iload rfl (show Dc Y_X12_alters 84 (.iload 4) 2 86 from ⟨by decide +kernel, rfl⟩) ?_
    refine J_icmp_ge (tg := 112) (show Dc Y_X12_alters 86 (.if_icmp .ge 26) 3 89 from ⟨by decide +kernel, rfl⟩) (by decide) (fun h => ?_) (fun h => ?_)
    · refine J_map (f := Sum.inr) (fun _ h => h) ?_
      exact j_X12_alters_112 (K := fun o => K (.inr o)) N x0 x1 x2 x3 x4 x5 g h0 hL43
    · refine J_aload_n rfl rfl (show Dc Y_X12_alters 89 (.aload_n 0) 1 90 from ⟨by decide +kernel, rfl⟩) ?_
      refine J_getR (show Dc Y_X12_alters 90 (.getfield 45) 3 93 from ⟨by decide +kernel, rfl⟩) w_f_RX12_45 rfl (fun v1 => ?_)
      refine J_iload rfl (show Dc Y_X12_alters 93 (.iload 5) 2 95 from ⟨by decide +kernel, rfl⟩) ?_
      refine J_iald (show Dc Y_X12_alters 95 (.iaload) 1 96 from ⟨by decide +kernel, rfl⟩) (fun v2 => ?_)
      refine J_aload_n rfl rfl (show Dc Y_X12_alters 96 (.aload_n 0) 1 97 from ⟨by decide +kernel, rfl⟩) ?_
      refine J_getR (show Dc Y_X12_alters 97 (.getfield 48) 3 100 from ⟨by decide +kernel, rfl⟩) w_f_RX12_48 rfl (fun v3 => ?_)
      refine J_iload rfl (show Dc Y_X12_alters 100 (.iload 5) 2 102 from ⟨by decide +kernel, rfl⟩) ?_
      refine J_iald (show Dc Y_X12_alters 102 (.iaload) 1 103 from ⟨by decide +kernel, rfl⟩) (fun v4 => ?_)
      refine J_icmp_ne (tg := 112) (show Dc Y_X12_alters 103 (.if_icmp .ne 9) 3 106 from ⟨by decide +kernel, rfl⟩) (by decide) (fun h => ?_) (fun h => ?_)
      · refine J_map (f := Sum.inr) (fun _ h => h) ?_
        exact j_X12_alters_112 (K := fun o => K (.inr o)) N x0 x1 x2 x3 x4 x5 g h0 hL43
      · refine J_iinc (1 : Int32) [some (.ref x0), some (.int x1), some (.int x2), some (.int x3), some (.int x4), some (.int (x5 + (1 : Int32)))] (show Dc Y_X12_alters 106 (.iinc 5 1) 3 109 from ⟨by decide +kernel, rfl⟩) rfl rfl (by decide) rfl rfl ?_
        refine J_goto (tg := 76) (show Dc Y_X12_alters 109 (.goto (-33)) 3 112 from ⟨by decide +kernel, rfl⟩) (by decide) ?_
        exact J_leaf (fun h => hL76 (x5 + (1 : Int32)) h)

theorem j_X12_alters_43 {X : ZX} (N : Nat) (x0 : Nat) (x1 : Int32) (x2 : Int32) (x3 : Int32)   (g : ZS) {K : ((Int32 × ZS) ⊕ (Int32 × ZS)) → Prop} (h0 : ∀ v g, K (.inr (v, g)) → xK X (some (.int v)) g) (hL43 : ∀ s, K (.inl s) → zG Y_X12_alters X 0 0 43 [some (.ref x0), some (.int x1), some (.int x2), some (.int s.1), none, none] [] s.2) : J Y_X12_alters X 0 0 43 [some (.ref x0), some (.int x1), some (.int x2), some (.int x3), none, none] [] g (f_X12_alters_43 N x0 x1 x2 x3 g) K := by
  unfold f_X12_alters_43
  refine J_iload_n rfl rfl (show Dc Y_X12_alters 43 (.iload_n 3) 1 44 from ⟨by decide +kernel, rfl⟩) ?_
  refine J_bipush (60 : Int32) rfl (show Dc Y_X12_alters 44 (.bipush 60) 2 46 from ⟨by decide +kernel, rfl⟩) ?_
  refine J_icmp_gt (tg := 173) (show Dc Y_X12_alters 46 (.if_icmp .gt 127) 3 49 from ⟨by decide +kernel, rfl⟩) (by decide) (fun h => ?_) (fun h => ?_)
  · refine J_map (f := Sum.inr) (fun _ h => h) ?_
    refine J_bipush (-2 : Int32) rfl (show Dc Y_X12_alters 173 (.bipush (-2)) 2 175 from ⟨by decide +kernel, rfl⟩) ?_
    exact J_reti (show Dc Y_X12_alters 175 (.ireturn) 1 176 from ⟨by decide +kernel, rfl⟩) rfl (h0 _ _) (by decide) (by decide)
  · refine J_aload_n rfl rfl (show Dc Y_X12_alters 49 (.aload_n 0) 1 50 from ⟨by decide +kernel, rfl⟩) ?_
    refine J_aload_n rfl rfl (show Dc Y_X12_alters 50 (.aload_n 0) 1 51 from ⟨by decide +kernel, rfl⟩) ?_
    refine J_getR (show Dc Y_X12_alters 51 (.getfield 60) 3 54 from ⟨by decide +kernel, rfl⟩) w_f_RX12_60 rfl (fun v1 => ?_)
    refine J_iconst (1 : Int32) rfl (show Dc Y_X12_alters 54 (.iconst 1) 1 55 from ⟨by decide +kernel, rfl⟩) ?_
    refine J_callVv (fun r => r) (show Dc Y_X12_alters 55 (.invokevirtual 265) 3 58 from ⟨by decide +kernel, rfl⟩) w_m_RX12_265 w_in_X12_goDays rfl w_se_X12_goDays w_cw_X12_goDays (c_X12_goDays N x0 v1 (1 : Int32) g) rfl rfl (by decide) (Nat.le_of_ble_eq_true rfl) (by decide) (by decide) (fun g2 => ?_)
    refine J_aload_n rfl rfl (show Dc Y_X12_alters 58 (.aload_n 0) 1 59 from ⟨by decide +kernel, rfl⟩) ?_
    refine J_aload_n rfl rfl (show Dc Y_X12_alters 59 (.aload_n 0) 1 60 from ⟨by decide +kernel, rfl⟩) ?_
    refine J_getR (show Dc Y_X12_alters 60 (.getfield 60) 3 63 from ⟨by decide +kernel, rfl⟩) w_f_RX12_60 rfl (fun v3 => ?_)
    refine J_iload_n rfl rfl (show Dc Y_X12_alters 63 (.iload_n 1) 1 64 from ⟨by decide +kernel, rfl⟩) ?_
    refine J_aload_n rfl rfl (show Dc Y_X12_alters 64 (.aload_n 0) 1 65 from ⟨by decide +kernel, rfl⟩) ?_
    refine J_getR (show Dc Y_X12_alters 65 (.getfield 45) 3 68 from ⟨by decide +kernel, rfl⟩) w_f_RX12_45 rfl (fun v4 => ?_)
    refine J_callVi (fun r => r.1) (fun r => r.2) (show Dc Y_X12_alters 68 (.invokevirtual 291) 3 71 from ⟨by decide +kernel, rfl⟩) w_m_RX12_291 w_in_X12_laySays rfl w_se_X12_laySays w_cw_X12_laySays (c_X12_laySays N x0 v3 x1 v4 g2) rfl rfl (by decide) (Nat.le_of_ble_eq_true rfl) (by decide) (by decide) (fun r5 => ?_)
    refine J_istore [some (.ref x0), some (.int x1), some (.int x2), some (.int x3), some (.int r5.1), none] (show Dc Y_X12_alters 71 (.istore 4) 2 73 from ⟨by decide +kernel, rfl⟩) (by decide) rfl rfl ?_
    refine J_iconst (0 : Int32) rfl (show Dc Y_X12_alters 73 (.iconst 0) 1 74 from ⟨by decide +kernel, rfl⟩) ?_
    refine J_istore [some (.ref x0), some (.int x1), some (.int x2), some (.int x3), some (.int r5.1), some (.int (0 : Int32))] (show Dc Y_X12_alters 74 (.istore 5) 2 76 from ⟨by decide +kernel, rfl⟩) (by decide) rfl rfl ?_
    exact J_loop (X := X) (K := K) (uc := fun _ => 0) (us := fun _ => 0) (lf := fun s => [some (.ref x0), some (.int x1), some (.int x2), some (.int x3), some (.int r5.1), some (.int s)]) (gf := fun s => r5.2) (fun s => j_X12_alters_76 (K := zKl Y_X12_alters X 76 (fun _ => 0) (fun _ => 0) (fun s => [some (.ref x0), some (.int x1), some (.int x2), some (.int x3), some (.int r5.1), some (.int s)]) (fun s => r5.2) K) N x0 x1 x2 x3 r5.1 s r5.2 h0 hL43 (fun s h => h)) N (0 : Int32)

theorem j_X12_alters {X : ZX} (N : Nat) (x0 : Nat) (x1 : Int32)   (g : ZS) {K : (Int32 × ZS) → Prop} (h0 : ∀ v g, K (v, g) → xK X (some (.int v)) g) : J Y_X12_alters X 0 0 0 [some (.ref x0), some (.int x1), none, none, none, none] [] g (f_X12_alters N x0 x1 g) K := by
  unfold f_X12_alters
  refine J_aload_n rfl rfl (show Dc Y_X12_alters 0 (.aload_n 0) 1 1 from ⟨by decide +kernel, rfl⟩) ?_
  refine J_iconst (0 : Int32) rfl (show Dc Y_X12_alters 1 (.iconst 0) 1 2 from ⟨by decide +kernel, rfl⟩) ?_
  refine J_putI (show Dc Y_X12_alters 2 (.putfield 109) 3 5 from ⟨by decide +kernel, rfl⟩) w_f_RX12_109 rfl rfl (fun g1 => ?_) (fun h => by cases h)
  refine J_aload_n rfl rfl (show Dc Y_X12_alters 5 (.aload_n 0) 1 6 from ⟨by decide +kernel, rfl⟩) ?_
  refine J_iload_n rfl rfl (show Dc Y_X12_alters 6 (.iload_n 1) 1 7 from ⟨by decide +kernel, rfl⟩) ?_
  refine J_callVi (fun r => r) (fun _ => g1) (show Dc Y_X12_alters 7 (.invokevirtual 234) 3 10 from ⟨by decide +kernel, rfl⟩) w_m_RX12_234 w_in_X12_isParrot rfl w_se_X12_isParrot w_cw_X12_isParrot (c_X12_isParrot x0 x1 g1) rfl rfl (by decide) (Nat.le_of_ble_eq_true rfl) (by decide) (by decide) (fun v2 => ?_)
  refine J_if_ne (tg := 15) (show Dc Y_X12_alters 10 (.ifCond .ne 5) 3 13 from ⟨by decide +kernel, rfl⟩) (by decide) (fun h => ?_) (fun h => ?_)
  · refine J_aload_n rfl rfl (show Dc Y_X12_alters 15 (.aload_n 0) 1 16 from ⟨by decide +kernel, rfl⟩) ?_
    refine J_getR (show Dc Y_X12_alters 16 (.getfield 9) 3 19 from ⟨by decide +kernel, rfl⟩) w_f_RX12_9 rfl (fun v3 => ?_)
    refine J_aload_n rfl rfl (show Dc Y_X12_alters 19 (.aload_n 0) 1 20 from ⟨by decide +kernel, rfl⟩) ?_
    refine J_getR (show Dc Y_X12_alters 20 (.getfield 60) 3 23 from ⟨by decide +kernel, rfl⟩) w_f_RX12_60 rfl (fun v4 => ?_)
    refine J_iconst (0 : Int32) rfl (show Dc Y_X12_alters 23 (.iconst 0) 1 24 from ⟨by decide +kernel, rfl⟩) ?_
    refine J_callSv (fun r => r) (show Dc Y_X12_alters 24 (.invokestatic 253) 3 27 from ⟨by decide +kernel, rfl⟩) w_m_RX12_253 w_st_X12_lay w_cw_X12_lay (c_X12_lay N v3 v4 (0 : Int32) g1) rfl rfl (by decide) (Nat.le_of_ble_eq_true rfl) (by decide) (by decide) (fun g5 => ?_)
    refine J_aload_n rfl rfl (show Dc Y_X12_alters 27 (.aload_n 0) 1 28 from ⟨by decide +kernel, rfl⟩) ?_
    refine J_aload_n rfl rfl (show Dc Y_X12_alters 28 (.aload_n 0) 1 29 from ⟨by decide +kernel, rfl⟩) ?_
    refine J_getR (show Dc Y_X12_alters 29 (.getfield 9) 3 32 from ⟨by decide +kernel, rfl⟩) w_f_RX12_9 rfl (fun v6 => ?_)
    refine J_iload_n rfl rfl (show Dc Y_X12_alters 32 (.iload_n 1) 1 33 from ⟨by decide +kernel, rfl⟩) ?_
    refine J_aload_n rfl rfl (show Dc Y_X12_alters 33 (.aload_n 0) 1 34 from ⟨by decide +kernel, rfl⟩) ?_
    refine J_getR (show Dc Y_X12_alters 34 (.getfield 48) 3 37 from ⟨by decide +kernel, rfl⟩) w_f_RX12_48 rfl (fun v7 => ?_)
    refine J_callVi (fun r => r.1) (fun r => r.2) (show Dc Y_X12_alters 37 (.invokevirtual 291) 3 40 from ⟨by decide +kernel, rfl⟩) w_m_RX12_291 w_in_X12_laySays rfl w_se_X12_laySays w_cw_X12_laySays (c_X12_laySays N x0 v6 x1 v7 g5) rfl rfl (by decide) (Nat.le_of_ble_eq_true rfl) (by decide) (by decide) (fun r8 => ?_)
    refine J_istore_n [some (.ref x0), some (.int x1), some (.int r8.1), none, none, none] (show Dc Y_X12_alters 40 (.istore_n 2) 1 41 from ⟨by decide +kernel, rfl⟩) rfl (by decide) rfl rfl ?_
    refine J_iconst (1 : Int32) rfl (show Dc Y_X12_alters 41 (.iconst 1) 1 42 from ⟨by decide +kernel, rfl⟩) ?_
    refine J_istore_n [some (.ref x0), some (.int x1), some (.int r8.1), some (.int (1 : Int32)), none, none] (show Dc Y_X12_alters 42 (.istore_n 3) 1 43 from ⟨by decide +kernel, rfl⟩) rfl (by decide) rfl rfl ?_
    exact J_loop (X := X) (K := K) (uc := fun _ => 0) (us := fun _ => 0) (lf := fun s => [some (.ref x0), some (.int x1), some (.int r8.1), some (.int s.1), none, none]) (gf := fun s => s.2) (fun s => j_X12_alters_43 (K := zKl Y_X12_alters X 43 (fun _ => 0) (fun _ => 0) (fun s => [some (.ref x0), some (.int x1), some (.int r8.1), some (.int s.1), none, none]) (fun s => s.2) K) N x0 x1 r8.1 s.1 s.2 h0 (fun s h => h)) N ((1 : Int32), r8.2)
  · refine J_iconst (-1 : Int32) rfl (show Dc Y_X12_alters 13 (.iconst (-1)) 1 14 from ⟨by decide +kernel, rfl⟩) ?_
    exact J_reti (show Dc Y_X12_alters 14 (.ireturn) 1 15 from ⟨by decide +kernel, rfl⟩) rfl (h0 _ _) (by decide) (by decide)

theorem c_X12_alters {l : Launch} {D : ZD} {B0 : Nat} (N : Nat) (x0 : Nat) (x1 : Int32) (g : ZS) : ∀ r, f_X12_alters N x0 x1 g = some r → zCt l D B0 yX12_alters Y_X12_alters [.ref x0, .int x1] g (some (.int r.1)) r.2 :=
  zCt_ofF (vo := fun r => some (.int r.1)) (so := fun r => r.2) (by decide +kernel) rfl (fun h => by cases h) rfl (Nat.le_of_ble_eq_true rfl) (fun X => j_X12_alters N x0 x1 g (fun _ _ h => h))
