def f_X5_begin_91 (x0 : Nat) (s0 : Nat) (s1 : Int32) (g : ZS) : Option (Int32 × ZS) :=
  (zwrI g s0 5 7 s1).bind fun g1 =>
  (zwrZ g1 x0 5 8 (1 : Int32)).bind fun g2 =>
  some ((1 : Int32), g2)

def f_X5_begin_78 (x0 : Nat) (x3 : Int32) (s0 : Nat) (s1 : Int32) (g : ZS) : Option (Int32 × ZS) :=
  zvs g s0 5 <| (f_X5_emit s0 s1 g).bind fun g1 =>
  if x3 = 0 then
    f_X5_begin_91 x0 x0 (0 : Int32) g1
  else
    f_X5_begin_91 x0 x0 (1 : Int32) g1

def f_X5_begin_61 (x0 : Nat) (x1 : Int32) (x2 : Int32) (x3 : Int32)  (g : ZS) : Option (Int32 × ZS) :=
  if x3 = 0 then
    f_X5_begin_78 x0 x3 x0 ((1000 : Int32) + x2) g
  else
    f_X5_begin_78 x0 x3 x0 (x1 - (48 : Int32)) g

def f_X5_begin_50 (x0 : Nat) (x1 : Int32) (x2 : Int32) (s0 : Int32) (g : ZS) : Option (Int32 × ZS) :=
  if s0 = 0 then
    if 0 ≤ x2 then
      f_X5_begin_61 x0 x1 x2 s0 g
    else
      some ((0 : Int32), g)
  else
    f_X5_begin_61 x0 x1 x2 s0 g

def f_X5_begin_49 (x0 : Nat) (x1 : Int32) (x2 : Int32)  (g : ZS) : Option (Int32 × ZS) :=
  f_X5_begin_50 x0 x1 x2 (0 : Int32) g

def f_X5_begin (x0 : Nat) (x1 : Int32)  (g : ZS) : Option (Int32 × ZS) :=
  if x1 = (45 : Int32) then
    zvs g x0 5 <| (f_X5_push x0 (256 : Int32) g).bind fun g2 =>
    some ((1 : Int32), g2)
  else
    if x1 = (40 : Int32) then
      zvs g x0 5 <| (f_X5_open x0 g).bind fun r1 =>
      if vp_nar .boolean r1.1 = r1.1 then some (r1.1, r1.2) else none
    else
      if x1 < (48 : Int32) then
        f_X5_begin_49 x0 x1 (zletter x1) g
      else
        if (57 : Int32) < x1 then
          f_X5_begin_49 x0 x1 (zletter x1) g
        else
          f_X5_begin_50 x0 x1 (zletter x1) (1 : Int32) g

def f_X5_readFrom_75 (N : Nat) (x2 : Int32)  (g : ZS) : Option (Int32 × ZS) :=
  some (x2, g)

def f_X5_readFrom_77 (N : Nat) (x0 : Nat) (x1 : Nat) (x2 : Int32)  (g : ZS) : Option ((Int32 × ZS) ⊕ (Int32 × ZS)) :=
  some (.inl (x2 + (1 : Int32), g))

def f_X5_readFrom_104 (N : Nat) (x1 : Nat)  (g : ZS) : Option (Int32 × ZS) :=
  (zrdI g x1 8 1).bind fun v1 =>
  some (v1, g)

def f_X5_readFrom_109 (N : Nat) (x0 : Nat)  (g : ZS) : Option (Int32 × ZS) :=
  zvs g x0 5 <| (f_X5_release N x0 (0 : Int32) g).bind fun g1 =>
  some ((-1 : Int32), g1)

def f_X5_readFrom_29 (N : Nat) (x0 : Nat) (x1 : Nat) (x2 : Int32)  (g : ZS) : Option ((Int32 × ZS) ⊕ (Int32 × ZS)) :=
  (zrdI g x1 8 1).bind fun v1 =>
  if v1 ≤ x2 then
    (
      (zrdI g x1 8 1).bind fun v2 =>
      if v2 ≤ 0 then
        f_X5_readFrom_109 N x0 g
      else
        (zrdI g x0 5 8).bind fun v3 =>
        if v3 = 0 then
          f_X5_readFrom_104 N x1 g
        else
          (zrdI g x0 5 6).bind fun v4 =>
          if v4 ≤ 0 then
            f_X5_readFrom_109 N x0 g
          else
            f_X5_readFrom_104 N x1 g).map Sum.inr
  else
    zvs g x1 8 <| (f_X8_at x1 x2 g).bind fun v5 =>
    if (40 : Int32) ≤ x2 then
      (
      f_X5_readFrom_75 N x2 g).map Sum.inr
    else
      (zrdI g x0 5 8).bind fun v6 =>
      if v6 = 0 then
        zvs g x0 5 <| (f_X5_begin x0 v5 g).bind fun r7 =>
        if r7.1 = 0 then
          (
          f_X5_readFrom_75 N x2 r7.2).map Sum.inr
        else
          f_X5_readFrom_77 N x0 x1 x2 r7.2
      else
        zvs g x0 5 <| (f_X5_goOn N x0 v5 g).bind fun r8 =>
        if r8.1 = 0 then
          (
          f_X5_readFrom_75 N x2 r8.2).map Sum.inr
        else
          f_X5_readFrom_77 N x0 x1 x2 r8.2

def f_X5_readFrom (N : Nat) (x0 : Nat) (x1 : Nat)  (g : ZS) : Option (Int32 × ZS) :=
  (zwrI g x0 5 4 (0 : Int32)).bind fun g1 =>
  (zwrI g1 x0 5 5 (0 : Int32)).bind fun g2 =>
  (zwrI g2 x0 5 6 (0 : Int32)).bind fun g3 =>
  (zrdR g3 x0 5 3).bind fun v4 =>
  (zast 22 g3 v4 (0 : Int32) (0 : Int32)).bind fun g5 =>
  (zwrZ g5 x0 5 8 (0 : Int32)).bind fun g6 =>
  zloop (fun s => f_X5_readFrom_29 N x0 x1 s.1 s.2) N ((0 : Int32), g6)

def f_X11_rule (N : Nat) (x0 : Nat)  (g : ZS) : Option (Int32 × ZS) :=
  (zrdR g x0 11 5).bind fun v1 =>
  (zrdR g x0 11 0).bind fun v2 =>
  zvs g v1 5 <| (f_X5_readFrom N v1 v2 g).bind fun r3 =>
  (zrdR r3.2 x0 11 0).bind fun v4 =>
  (zwrI r3.2 v4 8 1 (0 : Int32)).bind fun g5 =>
  if r3.1 = (-1 : Int32) then
    (zrdR g5 x0 11 4).bind fun v6 =>
    (zrdR g5 x0 11 5).bind fun v7 =>
    (zwrR g5 x0 11 4 v7).bind fun g8 =>
    (zwrR g8 x0 11 5 v6).bind fun g9 =>
    some ((0 : Int32), g9)
  else
    some ((-1 : Int32) - r3.1, g5)

def f_X11_law_115 (N : Nat) (x0 : Nat) (x2 : Int32) (x3 : Int32)  (g : ZS) : Option ((Int32 × Int32 × ZS) ⊕ (Int32 × ZS)) :=
  some (.inl (x2, x3 + (1 : Int32), g))

def f_X11_law_35 (N : Nat) (x0 : Nat) (x2 : Int32) (x3 : Int32)  (g : ZS) : Option ((Int32 × Int32 × ZS) ⊕ (Int32 × ZS)) :=
  (zrdR g x0 11 6).bind fun v1 =>
  (zrdI g v1 6 1).bind fun v2 =>
  if v2 ≤ x3 then
    (
      (zrdR g x0 11 1).bind fun v3 =>
      zvs g v3 9 <| (f_X9_only v3 x2.toInt64 g).bind fun g4 =>
      (f_J6_bitCount_0f7a4 x2).bind fun v5 =>
      some (v5, g4)).map Sum.inr
  else
    (zrdR g x0 11 12).bind fun v6 =>
    (zrdR g x0 11 6).bind fun v7 =>
    (zrdR g v7 6 0).bind fun v8 =>
    (zaald 25 g v8 x3).bind fun v9 =>
    (zrdR g x0 11 4).bind fun v10 =>
    (zrdR g x0 11 3).bind fun v11 =>
    zvs g v6 10 <| (f_X10_follow N v6 v9 v10 v11 g).bind fun g12 =>
    (zrdR g12 x0 11 13).bind fun v13 =>
    (zrdR g12 x0 11 6).bind fun v14 =>
    (zrdR g12 v14 6 0).bind fun v15 =>
    (zaald 25 g12 v15 x3).bind fun v16 =>
    (zrdR g12 x0 11 5).bind fun v17 =>
    (zrdR g12 x0 11 3).bind fun v18 =>
    zvs g12 v13 10 <| (f_X10_follow N v13 v16 v17 v18 g12).bind fun g19 =>
    (zrdR g19 x0 11 12).bind fun v20 =>
    (zrdR g19 x0 11 13).bind fun v21 =>
    zvs g19 v20 10 <| (f_X10_differsAt N v20 v21 g19).bind fun v22 =>
    if v22 = (-1 : Int32) then
      f_X11_law_115 N x0 x2 x3 g19
    else
      f_X11_law_115 N x0 (x2 ||| ((1 : Int32) <<< (x3 &&& 31))) x3 g19

def f_X11_law (N : Nat) (x0 : Nat)  (g : ZS) : Option (Int32 × ZS) :=
  (zrdR g x0 11 5).bind fun v1 =>
  (zrdR g x0 11 0).bind fun v2 =>
  zvs g v1 5 <| (f_X5_readFrom N v1 v2 g).bind fun r3 =>
  (zrdR r3.2 x0 11 0).bind fun v4 =>
  (zwrI r3.2 v4 8 1 (0 : Int32)).bind fun g5 =>
  if r3.1 = (-1 : Int32) then
    zloop (fun s => f_X11_law_35 N x0 s.1 s.2.1 s.2.2) N ((0 : Int32), (0 : Int32), g5)
  else
    some ((-10000 : Int32) - r3.1, g5)

theorem j_X5_begin_91 {X : ZX} (x0 : Nat) (s0 : Nat) (s1 : Int32)  (g : ZS) {K : (Int32 × ZS) → Prop} (h0 : ∀ v g, K (v, g) → xK X (some (.int v)) g) : J Y_X5_begin X 0 0 91 [some (.ref x0), none, none, none] [.int s1, .ref s0] g (f_X5_begin_91 x0 s0 s1 g) K := by
  unfold f_X5_begin_91
  refine J_putI (show Dc Y_X5_begin 91 (.putfield 75) 3 94 from ⟨by decide +kernel, rfl⟩) w_f_RX5_75 rfl rfl (fun g1 => ?_) (fun h => by cases h)
  refine J_aload_n rfl rfl (show Dc Y_X5_begin 94 (.aload_n 0) 1 95 from ⟨by decide +kernel, rfl⟩) ?_
  refine J_iconst (1 : Int32) rfl (show Dc Y_X5_begin 95 (.iconst 1) 1 96 from ⟨by decide +kernel, rfl⟩) ?_
  refine J_putZ (show Dc Y_X5_begin 96 (.putfield 35) 3 99 from ⟨by decide +kernel, rfl⟩) w_f_RX5_35 rfl rfl (fun g2 => ?_) (fun h => by cases h)
  refine J_iconst (1 : Int32) rfl (show Dc Y_X5_begin 99 (.iconst 1) 1 100 from ⟨by decide +kernel, rfl⟩) ?_
  exact J_retz rfl (show Dc Y_X5_begin 100 (.ireturn) 1 101 from ⟨by decide +kernel, rfl⟩) rfl (h0 _ _) (by decide) (by decide)

theorem j_X5_begin_78 {X : ZX} (x0 : Nat) (x3 : Int32) (s0 : Nat) (s1 : Int32)  (g : ZS) {K : (Int32 × ZS) → Prop} (h0 : ∀ v g, K (v, g) → xK X (some (.int v)) g) : J Y_X5_begin X 0 0 78 [some (.ref x0), none, none, some (.int x3)] [.int s1, .ref s0] g (f_X5_begin_78 x0 x3 s0 s1 g) K := by
  unfold f_X5_begin_78
  refine J_callVv (fun r => r) (show Dc Y_X5_begin 78 (.invokevirtual 72) 3 81 from ⟨by decide +kernel, rfl⟩) w_m_RX5_72 w_in_X5_emit rfl w_se_X5_emit w_cw_X5_emit (c_X5_emit s0 s1 g) rfl rfl (by decide) (Nat.le_of_ble_eq_true rfl) (by decide) (by decide) (fun g1 => ?_)
  refine J_aload_n rfl rfl (show Dc Y_X5_begin 81 (.aload_n 0) 1 82 from ⟨by decide +kernel, rfl⟩) ?_
  refine J_iload_n rfl rfl (show Dc Y_X5_begin 82 (.iload_n 3) 1 83 from ⟨by decide +kernel, rfl⟩) ?_
  refine J_if_eq (tg := 90) (show Dc Y_X5_begin 83 (.ifCond .eq 7) 3 86 from ⟨by decide +kernel, rfl⟩) (by decide) (fun h => ?_) (fun h => ?_)
  · refine J_iconst (0 : Int32) rfl (show Dc Y_X5_begin 90 (.iconst 0) 1 91 from ⟨by decide +kernel, rfl⟩) ?_
    refine J_mask [true, false, false, false] ?_
    exact j_X5_begin_91 x0 x0 (0 : Int32) g1 h0
  · refine J_iconst (1 : Int32) rfl (show Dc Y_X5_begin 86 (.iconst 1) 1 87 from ⟨by decide +kernel, rfl⟩) ?_
    refine J_goto (tg := 91) (show Dc Y_X5_begin 87 (.goto 4) 3 90 from ⟨by decide +kernel, rfl⟩) (by decide) ?_
    refine J_mask [true, false, false, false] ?_
    exact j_X5_begin_91 x0 x0 (1 : Int32) g1 h0

theorem j_X5_begin_61 {X : ZX} (x0 : Nat) (x1 : Int32) (x2 : Int32) (x3 : Int32)   (g : ZS) {K : (Int32 × ZS) → Prop} (h0 : ∀ v g, K (v, g) → xK X (some (.int v)) g) : J Y_X5_begin X 0 0 61 [some (.ref x0), some (.int x1), some (.int x2), some (.int x3)] [] g (f_X5_begin_61 x0 x1 x2 x3 g) K := by
  unfold f_X5_begin_61
  refine J_aload_n rfl rfl (show Dc Y_X5_begin 61 (.aload_n 0) 1 62 from ⟨by decide +kernel, rfl⟩) ?_
  refine J_iload_n rfl rfl (show Dc Y_X5_begin 62 (.iload_n 3) 1 63 from ⟨by decide +kernel, rfl⟩) ?_
  refine J_if_eq (tg := 73) (show Dc Y_X5_begin 63 (.ifCond .eq 10) 3 66 from ⟨by decide +kernel, rfl⟩) (by decide) (fun h => ?_) (fun h => ?_)
  · refine J_sipush (1000 : Int32) rfl (show Dc Y_X5_begin 73 (.sipush 1000) 3 76 from ⟨by decide +kernel, rfl⟩) ?_
    refine J_iload_n rfl rfl (show Dc Y_X5_begin 76 (.iload_n 2) 1 77 from ⟨by decide +kernel, rfl⟩) ?_
    refine J_iadd (show Dc Y_X5_begin 77 (.iadd) 1 78 from ⟨by decide +kernel, rfl⟩) ?_
    refine J_mask [true, false, false, true] ?_
    exact j_X5_begin_78 x0 x3 x0 ((1000 : Int32) + x2) g h0
  · refine J_iload_n rfl rfl (show Dc Y_X5_begin 66 (.iload_n 1) 1 67 from ⟨by decide +kernel, rfl⟩) ?_
    refine J_bipush (48 : Int32) rfl (show Dc Y_X5_begin 67 (.bipush 48) 2 69 from ⟨by decide +kernel, rfl⟩) ?_
    refine J_isub (show Dc Y_X5_begin 69 (.isub) 1 70 from ⟨by decide +kernel, rfl⟩) ?_
    refine J_goto (tg := 78) (show Dc Y_X5_begin 70 (.goto 8) 3 73 from ⟨by decide +kernel, rfl⟩) (by decide) ?_
    refine J_mask [true, false, false, true] ?_
    exact j_X5_begin_78 x0 x3 x0 (x1 - (48 : Int32)) g h0

theorem j_X5_begin_50 {X : ZX} (x0 : Nat) (x1 : Int32) (x2 : Int32) (s0 : Int32)  (g : ZS) {K : (Int32 × ZS) → Prop} (h0 : ∀ v g, K (v, g) → xK X (some (.int v)) g) : J Y_X5_begin X 0 0 50 [some (.ref x0), some (.int x1), some (.int x2), none] [.int s0] g (f_X5_begin_50 x0 x1 x2 s0 g) K := by
  unfold f_X5_begin_50
  refine J_istore_n [some (.ref x0), some (.int x1), some (.int x2), some (.int s0)] (show Dc Y_X5_begin 50 (.istore_n 3) 1 51 from ⟨by decide +kernel, rfl⟩) rfl (by decide) rfl rfl ?_
  refine J_iload_n rfl rfl (show Dc Y_X5_begin 51 (.iload_n 3) 1 52 from ⟨by decide +kernel, rfl⟩) ?_
  refine J_if_ne (tg := 61) (show Dc Y_X5_begin 52 (.ifCond .ne 9) 3 55 from ⟨by decide +kernel, rfl⟩) (by decide) (fun h => ?_) (fun h => ?_)
  · exact j_X5_begin_61 x0 x1 x2 s0 g h0
  · refine J_iload_n rfl rfl (show Dc Y_X5_begin 55 (.iload_n 2) 1 56 from ⟨by decide +kernel, rfl⟩) ?_
    refine J_if_ge (tg := 61) (show Dc Y_X5_begin 56 (.ifCond .ge 5) 3 59 from ⟨by decide +kernel, rfl⟩) (by decide) (fun h => ?_) (fun h => ?_)
    · exact j_X5_begin_61 x0 x1 x2 s0 g h0
    · refine J_iconst (0 : Int32) rfl (show Dc Y_X5_begin 59 (.iconst 0) 1 60 from ⟨by decide +kernel, rfl⟩) ?_
      exact J_retz rfl (show Dc Y_X5_begin 60 (.ireturn) 1 61 from ⟨by decide +kernel, rfl⟩) rfl (h0 _ _) (by decide) (by decide)

theorem j_X5_begin_49 {X : ZX} (x0 : Nat) (x1 : Int32) (x2 : Int32)   (g : ZS) {K : (Int32 × ZS) → Prop} (h0 : ∀ v g, K (v, g) → xK X (some (.int v)) g) : J Y_X5_begin X 0 0 49 [some (.ref x0), some (.int x1), some (.int x2), none] [] g (f_X5_begin_49 x0 x1 x2 g) K := by
  unfold f_X5_begin_49
  refine J_iconst (0 : Int32) rfl (show Dc Y_X5_begin 49 (.iconst 0) 1 50 from ⟨by decide +kernel, rfl⟩) ?_
  exact j_X5_begin_50 x0 x1 x2 (0 : Int32) g h0

theorem j_X5_begin {X : ZX} (x0 : Nat) (x1 : Int32)   (g : ZS) {K : (Int32 × ZS) → Prop} (h0 : ∀ v g, K (v, g) → xK X (some (.int v)) g) : J Y_X5_begin X 0 0 0 [some (.ref x0), some (.int x1), none, none] [] g (f_X5_begin x0 x1 g) K := by
  unfold f_X5_begin
  refine J_iload_n rfl rfl (show Dc Y_X5_begin 0 (.iload_n 1) 1 1 from ⟨by decide +kernel, rfl⟩) ?_
  refine J_bipush (45 : Int32) rfl (show Dc Y_X5_begin 1 (.bipush 45) 2 3 from ⟨by decide +kernel, rfl⟩) ?_
  refine J_icmp_ne (tg := 15) (show Dc Y_X5_begin 3 (.if_icmp .ne 12) 3 6 from ⟨by decide +kernel, rfl⟩) (by decide) (fun h => ?_) (fun h => ?_)
  · refine J_iload_n rfl rfl (show Dc Y_X5_begin 15 (.iload_n 1) 1 16 from ⟨by decide +kernel, rfl⟩) ?_
    refine J_bipush (40 : Int32) rfl (show Dc Y_X5_begin 16 (.bipush 40) 2 18 from ⟨by decide +kernel, rfl⟩) ?_
    refine J_icmp_ne (tg := 26) (show Dc Y_X5_begin 18 (.if_icmp .ne 8) 3 21 from ⟨by decide +kernel, rfl⟩) (by decide) (fun h => ?_) (fun h => ?_)
    · refine J_letters rfl (show Dc Y_X5_begin 26 (.ldc 64) 2 28 from ⟨by decide +kernel, rfl⟩) (show Dc Y_X5_begin 28 (.iload_n 1) 1 29 from ⟨by decide +kernel, rfl⟩) (show Dc Y_X5_begin 29 (.invokevirtual 66) 3 32 from ⟨by decide +kernel, rfl⟩) rfl (by decide) (Nat.le_of_ble_eq_true rfl) (by decide) (by decide) ?_
      refine J_istore_n [some (.ref x0), some (.int x1), some (.int (zletter x1)), none] (show Dc Y_X5_begin 32 (.istore_n 2) 1 33 from ⟨by decide +kernel, rfl⟩) rfl (by decide) rfl rfl ?_
      refine J_iload_n rfl rfl (show Dc Y_X5_begin 33 (.iload_n 1) 1 34 from ⟨by decide +kernel, rfl⟩) ?_
      refine J_bipush (48 : Int32) rfl (show Dc Y_X5_begin 34 (.bipush 48) 2 36 from ⟨by decide +kernel, rfl⟩) ?_
      refine J_icmp_lt (tg := 49) (show Dc Y_X5_begin 36 (.if_icmp .lt 13) 3 39 from ⟨by decide +kernel, rfl⟩) (by decide) (fun h => ?_) (fun h => ?_)
      · exact j_X5_begin_49 x0 x1 (zletter x1) g h0
      · refine J_iload_n rfl rfl (show Dc Y_X5_begin 39 (.iload_n 1) 1 40 from ⟨by decide +kernel, rfl⟩) ?_
        refine J_bipush (57 : Int32) rfl (show Dc Y_X5_begin 40 (.bipush 57) 2 42 from ⟨by decide +kernel, rfl⟩) ?_
        refine J_icmp_gt (tg := 49) (show Dc Y_X5_begin 42 (.if_icmp .gt 7) 3 45 from ⟨by decide +kernel, rfl⟩) (by decide) (fun h => ?_) (fun h => ?_)
        · exact j_X5_begin_49 x0 x1 (zletter x1) g h0
        · refine J_iconst (1 : Int32) rfl (show Dc Y_X5_begin 45 (.iconst 1) 1 46 from ⟨by decide +kernel, rfl⟩) ?_
          refine J_goto (tg := 50) (show Dc Y_X5_begin 46 (.goto 4) 3 49 from ⟨by decide +kernel, rfl⟩) (by decide) ?_
          exact j_X5_begin_50 x0 x1 (zletter x1) (1 : Int32) g h0
    · refine J_aload_n rfl rfl (show Dc Y_X5_begin 21 (.aload_n 0) 1 22 from ⟨by decide +kernel, rfl⟩) ?_
      refine J_callVi (fun r => r.1) (fun r => r.2) (show Dc Y_X5_begin 22 (.invokevirtual 60) 3 25 from ⟨by decide +kernel, rfl⟩) w_m_RX5_60 w_in_X5_open rfl w_se_X5_open w_cw_X5_open (c_X5_open x0 g) rfl rfl (by decide) (Nat.le_of_ble_eq_true rfl) (by decide) (by decide) (fun r1 => ?_)
      exact J_retZ (show Dc Y_X5_begin 25 (.ireturn) 1 26 from ⟨by decide +kernel, rfl⟩) rfl (h0 _ _) (by decide) (by decide)
  · refine J_aload_n rfl rfl (show Dc Y_X5_begin 6 (.aload_n 0) 1 7 from ⟨by decide +kernel, rfl⟩) ?_
    refine J_sipush (256 : Int32) rfl (show Dc Y_X5_begin 7 (.sipush 256) 3 10 from ⟨by decide +kernel, rfl⟩) ?_
    refine J_callVv (fun r => r) (show Dc Y_X5_begin 10 (.invokevirtual 57) 3 13 from ⟨by decide +kernel, rfl⟩) w_m_RX5_57 w_in_X5_push rfl w_se_X5_push w_cw_X5_push (c_X5_push x0 (256 : Int32) g) rfl rfl (by decide) (Nat.le_of_ble_eq_true rfl) (by decide) (by decide) (fun g2 => ?_)
    refine J_iconst (1 : Int32) rfl (show Dc Y_X5_begin 13 (.iconst 1) 1 14 from ⟨by decide +kernel, rfl⟩) ?_
    exact J_retz rfl (show Dc Y_X5_begin 14 (.ireturn) 1 15 from ⟨by decide +kernel, rfl⟩) rfl (h0 _ _) (by decide) (by decide)

theorem c_X5_begin {l : Launch} {D : ZD} {B0 : Nat} (x0 : Nat) (x1 : Int32) (g : ZS) : ∀ r, f_X5_begin x0 x1 g = some r → zCt l D B0 yX5_begin Y_X5_begin [.ref x0, .int x1] g (some (.int r.1)) r.2 :=
  zCt_ofF (vo := fun r => some (.int r.1)) (so := fun r => r.2) (by decide +kernel) rfl (fun h => by cases h) rfl (Nat.le_of_ble_eq_true rfl) (fun X => j_X5_begin x0 x1 g (fun _ _ h => h))

theorem j_X5_readFrom_75 {X : ZX} (N : Nat) (x2 : Int32)   (g : ZS) {K : (Int32 × ZS) → Prop} (h0 : ∀ v g, K (v, g) → xK X (some (.int v)) g) : J Y_X5_readFrom X 0 0 75 [none, none, some (.int x2), none] [] g (f_X5_readFrom_75 N x2 g) K := by
  unfold f_X5_readFrom_75
  refine J_iload_n rfl rfl (show Dc Y_X5_readFrom 75 (.iload_n 2) 1 76 from ⟨by decide +kernel, rfl⟩) ?_
  exact J_reti (show Dc Y_X5_readFrom 76 (.ireturn) 1 77 from ⟨by decide +kernel, rfl⟩) rfl (h0 _ _) (by decide) (by decide)

theorem j_X5_readFrom_77 {X : ZX} (N : Nat) (x0 : Nat) (x1 : Nat) (x2 : Int32)   (g : ZS) {K : ((Int32 × ZS) ⊕ (Int32 × ZS)) → Prop} (h0 : ∀ v g, K (.inr (v, g)) → xK X (some (.int v)) g) (hL29 : ∀ s, K (.inl s) → zG Y_X5_readFrom X 0 0 29 [some (.ref x0), some (.ref x1), some (.int s.1), none] [] s.2) : J Y_X5_readFrom X 0 0 77 [some (.ref x0), some (.ref x1), some (.int x2), none] [] g (f_X5_readFrom_77 N x0 x1 x2 g) K := by
  unfold f_X5_readFrom_77
  refine J_iinc (1 : Int32) [some (.ref x0), some (.ref x1), some (.int (x2 + (1 : Int32))), none] (show Dc Y_X5_readFrom 77 (.iinc 2 1) 3 80 from ⟨by decide +kernel, rfl⟩) rfl rfl (by decide) rfl rfl ?_
  refine J_goto (tg := 29) (show Dc Y_X5_readFrom 80 (.goto (-51)) 3 83 from ⟨by decide +kernel, rfl⟩) (by decide) ?_
  exact J_leaf (fun h => hL29 (x2 + (1 : Int32), g) h)

theorem j_X5_readFrom_104 {X : ZX} (N : Nat) (x1 : Nat)   (g : ZS) {K : (Int32 × ZS) → Prop} (h0 : ∀ v g, K (v, g) → xK X (some (.int v)) g) : J Y_X5_readFrom X 0 0 104 [none, some (.ref x1), none, none] [] g (f_X5_readFrom_104 N x1 g) K := by
  unfold f_X5_readFrom_104
  refine J_aload_n rfl rfl (show Dc Y_X5_readFrom 104 (.aload_n 1) 1 105 from ⟨by decide +kernel, rfl⟩) ?_
  refine J_getI (show Dc Y_X5_readFrom 105 (.getfield 39) 3 108 from ⟨by decide +kernel, rfl⟩) w_f_RX5_39 rfl (fun v1 => ?_)
  exact J_reti (show Dc Y_X5_readFrom 108 (.ireturn) 1 109 from ⟨by decide +kernel, rfl⟩) rfl (h0 _ _) (by decide) (by decide)

theorem j_X5_readFrom_109 {X : ZX} (N : Nat) (x0 : Nat)   (g : ZS) {K : (Int32 × ZS) → Prop} (h0 : ∀ v g, K (v, g) → xK X (some (.int v)) g) : J Y_X5_readFrom X 0 0 109 [some (.ref x0), none, none, none] [] g (f_X5_readFrom_109 N x0 g) K := by
  unfold f_X5_readFrom_109
  refine J_aload_n rfl rfl (show Dc Y_X5_readFrom 109 (.aload_n 0) 1 110 from ⟨by decide +kernel, rfl⟩) ?_
  refine J_iconst (0 : Int32) rfl (show Dc Y_X5_readFrom 110 (.iconst 0) 1 111 from ⟨by decide +kernel, rfl⟩) ?_
  refine J_callVv (fun r => r) (show Dc Y_X5_readFrom 111 (.invokevirtual 53) 3 114 from ⟨by decide +kernel, rfl⟩) w_m_RX5_53 w_in_X5_release rfl w_se_X5_release w_cw_X5_release (c_X5_release N x0 (0 : Int32) g) rfl rfl (by decide) (Nat.le_of_ble_eq_true rfl) (by decide) (by decide) (fun g1 => ?_)
  refine J_iconst (-1 : Int32) rfl (show Dc Y_X5_readFrom 114 (.iconst (-1)) 1 115 from ⟨by decide +kernel, rfl⟩) ?_
  exact J_reti (show Dc Y_X5_readFrom 115 (.ireturn) 1 116 from ⟨by decide +kernel, rfl⟩) rfl (h0 _ _) (by decide) (by decide)

theorem j_X5_readFrom_29 {X : ZX} (N : Nat) (x0 : Nat) (x1 : Nat) (x2 : Int32)   (g : ZS) {K : ((Int32 × ZS) ⊕ (Int32 × ZS)) → Prop} (h0 : ∀ v g, K (.inr (v, g)) → xK X (some (.int v)) g) (hL29 : ∀ s, K (.inl s) → zG Y_X5_readFrom X 0 0 29 [some (.ref x0), some (.ref x1), some (.int s.1), none] [] s.2) : J Y_X5_readFrom X 0 0 29 [some (.ref x0), some (.ref x1), some (.int x2), none] [] g (f_X5_readFrom_29 N x0 x1 x2 g) K := by
  unfold f_X5_readFrom_29
  refine J_iload_n rfl rfl (show Dc Y_X5_readFrom 29 (.iload_n 2) 1 30 from ⟨by decide +kernel, rfl⟩) ?_
  refine J_aload_n rfl rfl (show Dc Y_X5_readFrom 30 (.aload_n 1) 1 31 from ⟨by decide +kernel, rfl⟩) ?_
  refine J_getI (show Dc Y_X5_readFrom 31 (.getfield 39) 3 34 from ⟨by decide +kernel, rfl⟩) w_f_RX5_39 rfl (fun v1 => ?_)
  refine J_icmp_ge (tg := 83) (show Dc Y_X5_readFrom 34 (.if_icmp .ge 49) 3 37 from ⟨by decide +kernel, rfl⟩) (by decide) (fun h => ?_) (fun h => ?_)
  · refine J_map (f := Sum.inr) (fun _ h => h) ?_
    refine J_aload_n rfl rfl (show Dc Y_X5_readFrom 83 (.aload_n 1) 1 84 from ⟨by decide +kernel, rfl⟩) ?_
    refine J_getI (show Dc Y_X5_readFrom 84 (.getfield 39) 3 87 from ⟨by decide +kernel, rfl⟩) w_f_RX5_39 rfl (fun v2 => ?_)
    refine J_if_le (tg := 109) (show Dc Y_X5_readFrom 87 (.ifCond .le 22) 3 90 from ⟨by decide +kernel, rfl⟩) (by decide) (fun h => ?_) (fun h => ?_)
    · refine J_mask [true, false, false, false] ?_
      exact j_X5_readFrom_109 (K := fun o => K (.inr o)) N x0 g h0
    · refine J_aload_n rfl rfl (show Dc Y_X5_readFrom 90 (.aload_n 0) 1 91 from ⟨by decide +kernel, rfl⟩) ?_
      refine J_getI (show Dc Y_X5_readFrom 91 (.getfield 35) 3 94 from ⟨by decide +kernel, rfl⟩) w_f_RX5_35 rfl (fun v3 => ?_)
      refine J_if_eq (tg := 104) (show Dc Y_X5_readFrom 94 (.ifCond .eq 10) 3 97 from ⟨by decide +kernel, rfl⟩) (by decide) (fun h => ?_) (fun h => ?_)
      · refine J_mask [false, true, false, false] ?_
        exact j_X5_readFrom_104 (K := fun o => K (.inr o)) N x1 g h0
      · refine J_aload_n rfl rfl (show Dc Y_X5_readFrom 97 (.aload_n 0) 1 98 from ⟨by decide +kernel, rfl⟩) ?_
        refine J_getI (show Dc Y_X5_readFrom 98 (.getfield 32) 3 101 from ⟨by decide +kernel, rfl⟩) w_f_RX5_32 rfl (fun v4 => ?_)
        refine J_if_le (tg := 109) (show Dc Y_X5_readFrom 101 (.ifCond .le 8) 3 104 from ⟨by decide +kernel, rfl⟩) (by decide) (fun h => ?_) (fun h => ?_)
        · refine J_mask [true, false, false, false] ?_
          exact j_X5_readFrom_109 (K := fun o => K (.inr o)) N x0 g h0
        · refine J_mask [false, true, false, false] ?_
          exact j_X5_readFrom_104 (K := fun o => K (.inr o)) N x1 g h0
  · refine J_aload_n rfl rfl (show Dc Y_X5_readFrom 37 (.aload_n 1) 1 38 from ⟨by decide +kernel, rfl⟩) ?_
    refine J_iload_n rfl rfl (show Dc Y_X5_readFrom 38 (.iload_n 2) 1 39 from ⟨by decide +kernel, rfl⟩) ?_
    refine J_callVi (fun r => r) (fun _ => g) (show Dc Y_X5_readFrom 39 (.invokevirtual 42) 3 42 from ⟨by decide +kernel, rfl⟩) w_m_RX5_42 w_in_X8_at rfl w_se_X8_at w_cw_X8_at (c_X8_at x1 x2 g) rfl rfl (by decide) (Nat.le_of_ble_eq_true rfl) (by decide) (by decide) (fun v5 => ?_)
    refine J_istore_n [some (.ref x0), some (.ref x1), some (.int x2), some (.int v5)] (show Dc Y_X5_readFrom 42 (.istore_n 3) 1 43 from ⟨by decide +kernel, rfl⟩) rfl (by decide) rfl rfl ?_
    refine J_iload_n rfl rfl (show Dc Y_X5_readFrom 43 (.iload_n 2) 1 44 from ⟨by decide +kernel, rfl⟩) ?_
    refine J_bipush (40 : Int32) rfl (show Dc Y_X5_readFrom 44 (.bipush 40) 2 46 from ⟨by decide +kernel, rfl⟩) ?_
    refine J_icmp_ge (tg := 75) (show Dc Y_X5_readFrom 46 (.if_icmp .ge 29) 3 49 from ⟨by decide +kernel, rfl⟩) (by decide) (fun h => ?_) (fun h => ?_)
    · refine J_mask [false, false, true, false] ?_
      refine J_map (f := Sum.inr) (fun _ h => h) ?_
      exact j_X5_readFrom_75 (K := fun o => K (.inr o)) N x2 g h0
    · refine J_aload_n rfl rfl (show Dc Y_X5_readFrom 49 (.aload_n 0) 1 50 from ⟨by decide +kernel, rfl⟩) ?_
      refine J_getI (show Dc Y_X5_readFrom 50 (.getfield 35) 3 53 from ⟨by decide +kernel, rfl⟩) w_f_RX5_35 rfl (fun v6 => ?_)
      refine J_if_eq (tg := 67) (show Dc Y_X5_readFrom 53 (.ifCond .eq 14) 3 56 from ⟨by decide +kernel, rfl⟩) (by decide) (fun h => ?_) (fun h => ?_)
      · refine J_aload_n rfl rfl (show Dc Y_X5_readFrom 67 (.aload_n 0) 1 68 from ⟨by decide +kernel, rfl⟩) ?_
        refine J_iload_n rfl rfl (show Dc Y_X5_readFrom 68 (.iload_n 3) 1 69 from ⟨by decide +kernel, rfl⟩) ?_
        refine J_callVi (fun r => r.1) (fun r => r.2) (show Dc Y_X5_readFrom 69 (.invokevirtual 50) 3 72 from ⟨by decide +kernel, rfl⟩) w_m_RX5_50 w_in_X5_begin rfl w_se_X5_begin w_cw_X5_begin (c_X5_begin x0 v5 g) rfl rfl (by decide) (Nat.le_of_ble_eq_true rfl) (by decide) (by decide) (fun r7 => ?_)
        refine J_if_ne (tg := 77) (show Dc Y_X5_readFrom 72 (.ifCond .ne 5) 3 75 from ⟨by decide +kernel, rfl⟩) (by decide) (fun h => ?_) (fun h => ?_)
        · refine J_mask [true, true, true, false] ?_
          exact j_X5_readFrom_77 N x0 x1 x2 r7.2 h0 hL29
        · refine J_mask [false, false, true, false] ?_
          refine J_map (f := Sum.inr) (fun _ h => h) ?_
          exact j_X5_readFrom_75 (K := fun o => K (.inr o)) N x2 r7.2 h0
      · refine J_aload_n rfl rfl (show Dc Y_X5_readFrom 56 (.aload_n 0) 1 57 from ⟨by decide +kernel, rfl⟩) ?_
        refine J_iload_n rfl rfl (show Dc Y_X5_readFrom 57 (.iload_n 3) 1 58 from ⟨by decide +kernel, rfl⟩) ?_
        refine J_callVi (fun r => r.1) (fun r => r.2) (show Dc Y_X5_readFrom 58 (.invokevirtual 46) 3 61 from ⟨by decide +kernel, rfl⟩) w_m_RX5_46 w_in_X5_goOn rfl w_se_X5_goOn w_cw_X5_goOn (c_X5_goOn N x0 v5 g) rfl rfl (by decide) (Nat.le_of_ble_eq_true rfl) (by decide) (by decide) (fun r8 => ?_)
        refine J_if_eq (tg := 75) (show Dc Y_X5_readFrom 61 (.ifCond .eq 14) 3 64 from ⟨by decide +kernel, rfl⟩) (by decide) (fun h => ?_) (fun h => ?_)
        · refine J_mask [false, false, true, false] ?_
          refine J_map (f := Sum.inr) (fun _ h => h) ?_
          exact j_X5_readFrom_75 (K := fun o => K (.inr o)) N x2 r8.2 h0
        · refine J_goto (tg := 77) (show Dc Y_X5_readFrom 64 (.goto 13) 3 67 from ⟨by decide +kernel, rfl⟩) (by decide) ?_
          refine J_mask [true, true, true, false] ?_
          exact j_X5_readFrom_77 N x0 x1 x2 r8.2 h0 hL29

theorem j_X5_readFrom {X : ZX} (N : Nat) (x0 : Nat) (x1 : Nat)   (g : ZS) {K : (Int32 × ZS) → Prop} (h0 : ∀ v g, K (v, g) → xK X (some (.int v)) g) : J Y_X5_readFrom X 0 0 0 [some (.ref x0), some (.ref x1), none, none] [] g (f_X5_readFrom N x0 x1 g) K := by
  unfold f_X5_readFrom
  refine J_aload_n rfl rfl (show Dc Y_X5_readFrom 0 (.aload_n 0) 1 1 from ⟨by decide +kernel, rfl⟩) ?_
  refine J_iconst (0 : Int32) rfl (show Dc Y_X5_readFrom 1 (.iconst 0) 1 2 from ⟨by decide +kernel, rfl⟩) ?_
  refine J_putI (show Dc Y_X5_readFrom 2 (.putfield 25) 3 5 from ⟨by decide +kernel, rfl⟩) w_f_RX5_25 rfl rfl (fun g1 => ?_) (fun h => by cases h)
  refine J_aload_n rfl rfl (show Dc Y_X5_readFrom 5 (.aload_n 0) 1 6 from ⟨by decide +kernel, rfl⟩) ?_
  refine J_iconst (0 : Int32) rfl (show Dc Y_X5_readFrom 6 (.iconst 0) 1 7 from ⟨by decide +kernel, rfl⟩) ?_
  refine J_putI (show Dc Y_X5_readFrom 7 (.putfield 29) 3 10 from ⟨by decide +kernel, rfl⟩) w_f_RX5_29 rfl rfl (fun g2 => ?_) (fun h => by cases h)
  refine J_aload_n rfl rfl (show Dc Y_X5_readFrom 10 (.aload_n 0) 1 11 from ⟨by decide +kernel, rfl⟩) ?_
  refine J_iconst (0 : Int32) rfl (show Dc Y_X5_readFrom 11 (.iconst 0) 1 12 from ⟨by decide +kernel, rfl⟩) ?_
  refine J_putI (show Dc Y_X5_readFrom 12 (.putfield 32) 3 15 from ⟨by decide +kernel, rfl⟩) w_f_RX5_32 rfl rfl (fun g3 => ?_) (fun h => by cases h)
  refine J_aload_n rfl rfl (show Dc Y_X5_readFrom 15 (.aload_n 0) 1 16 from ⟨by decide +kernel, rfl⟩) ?_
  refine J_getR (show Dc Y_X5_readFrom 16 (.getfield 21) 3 19 from ⟨by decide +kernel, rfl⟩) w_f_RX5_21 rfl (fun v4 => ?_)
  refine J_iconst (0 : Int32) rfl (show Dc Y_X5_readFrom 19 (.iconst 0) 1 20 from ⟨by decide +kernel, rfl⟩) ?_
  refine J_iconst (0 : Int32) rfl (show Dc Y_X5_readFrom 20 (.iconst 0) 1 21 from ⟨by decide +kernel, rfl⟩) ?_
  refine J_zast (show Dc Y_X5_readFrom 21 (.bastore) 1 22 from ⟨by decide +kernel, rfl⟩) (fun g5 => ?_)
  refine J_aload_n rfl rfl (show Dc Y_X5_readFrom 22 (.aload_n 0) 1 23 from ⟨by decide +kernel, rfl⟩) ?_
  refine J_iconst (0 : Int32) rfl (show Dc Y_X5_readFrom 23 (.iconst 0) 1 24 from ⟨by decide +kernel, rfl⟩) ?_
  refine J_putZ (show Dc Y_X5_readFrom 24 (.putfield 35) 3 27 from ⟨by decide +kernel, rfl⟩) w_f_RX5_35 rfl rfl (fun g6 => ?_) (fun h => by cases h)
  refine J_iconst (0 : Int32) rfl (show Dc Y_X5_readFrom 27 (.iconst 0) 1 28 from ⟨by decide +kernel, rfl⟩) ?_
  refine J_istore_n [some (.ref x0), some (.ref x1), some (.int (0 : Int32)), none] (show Dc Y_X5_readFrom 28 (.istore_n 2) 1 29 from ⟨by decide +kernel, rfl⟩) rfl (by decide) rfl rfl ?_
  exact J_loop (X := X) (K := K) (uc := fun _ => 0) (us := fun _ => 0) (lf := fun s => [some (.ref x0), some (.ref x1), some (.int s.1), none]) (gf := fun s => s.2) (fun s => j_X5_readFrom_29 (K := zKl Y_X5_readFrom X 29 (fun _ => 0) (fun _ => 0) (fun s => [some (.ref x0), some (.ref x1), some (.int s.1), none]) (fun s => s.2) K) N x0 x1 s.1 s.2 h0 (fun s h => h)) N ((0 : Int32), g6)

theorem c_X5_readFrom {l : Launch} {D : ZD} {B0 : Nat} (N : Nat) (x0 : Nat) (x1 : Nat) (g : ZS) : ∀ r, f_X5_readFrom N x0 x1 g = some r → zCt l D B0 yX5_readFrom Y_X5_readFrom [.ref x0, .ref x1] g (some (.int r.1)) r.2 :=
  zCt_ofF (vo := fun r => some (.int r.1)) (so := fun r => r.2) (by decide +kernel) rfl (fun h => by cases h) rfl (Nat.le_of_ble_eq_true rfl) (fun X => j_X5_readFrom N x0 x1 g (fun _ _ h => h))

theorem j_X11_rule {X : ZX} (N : Nat) (x0 : Nat)   (g : ZS) {K : (Int32 × ZS) → Prop} (h0 : ∀ v g, K (v, g) → xK X (some (.int v)) g) : J Y_X11_rule X 0 0 0 [some (.ref x0), none, none] [] g (f_X11_rule N x0 g) K := by
  unfold f_X11_rule
  refine J_aload_n rfl rfl (show Dc Y_X11_rule 0 (.aload_n 0) 1 1 from ⟨by decide +kernel, rfl⟩) ?_
  refine J_getR (show Dc Y_X11_rule 1 (.getfield 41) 3 4 from ⟨by decide +kernel, rfl⟩) w_f_RX11_41 rfl (fun v1 => ?_)
  refine J_aload_n rfl rfl (show Dc Y_X11_rule 4 (.aload_n 0) 1 5 from ⟨by decide +kernel, rfl⟩) ?_
  refine J_getR (show Dc Y_X11_rule 5 (.getfield 10) 3 8 from ⟨by decide +kernel, rfl⟩) w_f_RX11_10 rfl (fun v2 => ?_)
  refine J_callVi (fun r => r.1) (fun r => r.2) (show Dc Y_X11_rule 8 (.invokevirtual 157) 3 11 from ⟨by decide +kernel, rfl⟩) w_m_RX11_157 w_in_X5_readFrom rfl w_se_X5_readFrom w_cw_X5_readFrom (c_X5_readFrom N v1 v2 g) rfl rfl (by decide) (Nat.le_of_ble_eq_true rfl) (by decide) (by decide) (fun r3 => ?_)
  refine J_istore_n [some (.ref x0), some (.int r3.1), none] (show Dc Y_X11_rule 11 (.istore_n 1) 1 12 from ⟨by decide +kernel, rfl⟩) rfl (by decide) rfl rfl ?_
  refine J_aload_n rfl rfl (show Dc Y_X11_rule 12 (.aload_n 0) 1 13 from ⟨by decide +kernel, rfl⟩) ?_
  refine J_getR (show Dc Y_X11_rule 13 (.getfield 10) 3 16 from ⟨by decide +kernel, rfl⟩) w_f_RX11_10 rfl (fun v4 => ?_)
  refine J_iconst (0 : Int32) rfl (show Dc Y_X11_rule 16 (.iconst 0) 1 17 from ⟨by decide +kernel, rfl⟩) ?_
  refine J_putI (show Dc Y_X11_rule 17 (.putfield 110) 3 20 from ⟨by decide +kernel, rfl⟩) w_f_RX11_110 rfl rfl (fun g5 => ?_) (fun h => by cases h)
  refine J_iload_n rfl rfl (show Dc Y_X11_rule 20 (.iload_n 1) 1 21 from ⟨by decide +kernel, rfl⟩) ?_
  refine J_iconst (-1 : Int32) rfl (show Dc Y_X11_rule 21 (.iconst (-1)) 1 22 from ⟨by decide +kernel, rfl⟩) ?_
  refine J_icmp_eq (tg := 29) (show Dc Y_X11_rule 22 (.if_icmp .eq 7) 3 25 from ⟨by decide +kernel, rfl⟩) (by decide) (fun h => ?_) (fun h => ?_)
  · refine J_aload_n rfl rfl (show Dc Y_X11_rule 29 (.aload_n 0) 1 30 from ⟨by decide +kernel, rfl⟩) ?_
    refine J_getR (show Dc Y_X11_rule 30 (.getfield 37) 3 33 from ⟨by decide +kernel, rfl⟩) w_f_RX11_37 rfl (fun v6 => ?_)
    refine J_astore_n [some (.ref x0), some (.int r3.1), some (.ref v6)] (show Dc Y_X11_rule 33 (.astore_n 2) 1 34 from ⟨by decide +kernel, rfl⟩) rfl (by decide) rfl rfl ?_
    refine J_aload_n rfl rfl (show Dc Y_X11_rule 34 (.aload_n 0) 1 35 from ⟨by decide +kernel, rfl⟩) ?_
    refine J_aload_n rfl rfl (show Dc Y_X11_rule 35 (.aload_n 0) 1 36 from ⟨by decide +kernel, rfl⟩) ?_
    refine J_getR (show Dc Y_X11_rule 36 (.getfield 41) 3 39 from ⟨by decide +kernel, rfl⟩) w_f_RX11_41 rfl (fun v7 => ?_)
    refine J_putR (show Dc Y_X11_rule 39 (.putfield 37) 3 42 from ⟨by decide +kernel, rfl⟩) w_f_RX11_37 rfl (Or.inr rfl) (fun g8 => ?_) (fun h => by cases h)
    refine J_aload_n rfl rfl (show Dc Y_X11_rule 42 (.aload_n 0) 1 43 from ⟨by decide +kernel, rfl⟩) ?_
    refine J_aload_n rfl rfl (show Dc Y_X11_rule 43 (.aload_n 2) 1 44 from ⟨by decide +kernel, rfl⟩) ?_
    refine J_putR (show Dc Y_X11_rule 44 (.putfield 41) 3 47 from ⟨by decide +kernel, rfl⟩) w_f_RX11_41 rfl (Or.inr rfl) (fun g9 => ?_) (fun h => by cases h)
    refine J_iconst (0 : Int32) rfl (show Dc Y_X11_rule 47 (.iconst 0) 1 48 from ⟨by decide +kernel, rfl⟩) ?_
    exact J_reti (show Dc Y_X11_rule 48 (.ireturn) 1 49 from ⟨by decide +kernel, rfl⟩) rfl (h0 _ _) (by decide) (by decide)
  · refine J_iconst (-1 : Int32) rfl (show Dc Y_X11_rule 25 (.iconst (-1)) 1 26 from ⟨by decide +kernel, rfl⟩) ?_
    refine J_iload_n rfl rfl (show Dc Y_X11_rule 26 (.iload_n 1) 1 27 from ⟨by decide +kernel, rfl⟩) ?_
    refine J_isub (show Dc Y_X11_rule 27 (.isub) 1 28 from ⟨by decide +kernel, rfl⟩) ?_
    exact J_reti (show Dc Y_X11_rule 28 (.ireturn) 1 29 from ⟨by decide +kernel, rfl⟩) rfl (h0 _ _) (by decide) (by decide)

theorem c_X11_rule {l : Launch} {D : ZD} {B0 : Nat} (N : Nat) (x0 : Nat) (g : ZS) : ∀ r, f_X11_rule N x0 g = some r → zCt l D B0 yX11_rule Y_X11_rule [.ref x0] g (some (.int r.1)) r.2 :=
  zCt_ofF (vo := fun r => some (.int r.1)) (so := fun r => r.2) (by decide +kernel) rfl (fun h => by cases h) rfl (Nat.le_of_ble_eq_true rfl) (fun X => j_X11_rule N x0 g (fun _ _ h => h))

theorem j_X11_law_115 {X : ZX} (N : Nat) (x0 : Nat) (x2 : Int32) (x3 : Int32)   (g : ZS) {K : ((Int32 × Int32 × ZS) ⊕ (Int32 × ZS)) → Prop} (h0 : ∀ v g, K (.inr (v, g)) → xK X (some (.int v)) g) (hL35 : ∀ s, K (.inl s) → zG Y_X11_law X 0 0 35 [some (.ref x0), none, some (.int s.1), some (.int s.2.1)] [] s.2.2) : J Y_X11_law X 0 0 115 [some (.ref x0), none, some (.int x2), some (.int x3)] [] g (f_X11_law_115 N x0 x2 x3 g) K := by
  unfold f_X11_law_115
  refine J_iinc (1 : Int32) [some (.ref x0), none, some (.int x2), some (.int (x3 + (1 : Int32)))] (show Dc Y_X11_law 115 (.iinc 3 1) 3 118 from ⟨by decide +kernel, rfl⟩) rfl rfl (by decide) rfl rfl ?_
  refine J_goto (tg := 35) (show Dc Y_X11_law 118 (.goto (-83)) 3 121 from ⟨by decide +kernel, rfl⟩) (by decide) ?_
  exact J_leaf (fun h => hL35 (x2, x3 + (1 : Int32), g) h)

theorem j_X11_law_35 {X : ZX} (N : Nat) (x0 : Nat) (x2 : Int32) (x3 : Int32)   (g : ZS) {K : ((Int32 × Int32 × ZS) ⊕ (Int32 × ZS)) → Prop} (h0 : ∀ v g, K (.inr (v, g)) → xK X (some (.int v)) g) (hL35 : ∀ s, K (.inl s) → zG Y_X11_law X 0 0 35 [some (.ref x0), none, some (.int s.1), some (.int s.2.1)] [] s.2.2) : J Y_X11_law X 0 0 35 [some (.ref x0), none, some (.int x2), some (.int x3)] [] g (f_X11_law_35 N x0 x2 x3 g) K := by
  unfold f_X11_law_35
  refine J_iload_n rfl rfl (show Dc Y_X11_law 35 (.iload_n 3) 1 36 from ⟨by decide +kernel, rfl⟩) ?_
  refine J_aload_n rfl rfl (show Dc Y_X11_law 36 (.aload_n 0) 1 37 from ⟨by decide +kernel, rfl⟩) ?_
  refine J_getR (show Dc Y_X11_law 37 (.getfield 47) 3 40 from ⟨by decide +kernel, rfl⟩) w_f_RX11_47 rfl (fun v1 => ?_)
  refine J_getI (show Dc Y_X11_law 40 (.getfield 146) 3 43 from ⟨by decide +kernel, rfl⟩) w_f_RX11_146 rfl (fun v2 => ?_)
  refine J_icmp_ge (tg := 121) (show Dc Y_X11_law 43 (.if_icmp .ge 78) 3 46 from ⟨by decide +kernel, rfl⟩) (by decide) (fun h => ?_) (fun h => ?_)
  · refine J_map (f := Sum.inr) (fun _ h => h) ?_
    refine J_aload_n rfl rfl (show Dc Y_X11_law 121 (.aload_n 0) 1 122 from ⟨by decide +kernel, rfl⟩) ?_
    refine J_getR (show Dc Y_X11_law 122 (.getfield 19) 3 125 from ⟨by decide +kernel, rfl⟩) w_f_RX11_19 rfl (fun v3 => ?_)
    refine J_iload_n rfl rfl (show Dc Y_X11_law 125 (.iload_n 2) 1 126 from ⟨by decide +kernel, rfl⟩) ?_
    refine J_i2l (show Dc Y_X11_law 126 (.i2l) 1 127 from ⟨by decide +kernel, rfl⟩) ?_
    refine J_callVv (fun r => r) (show Dc Y_X11_law 127 (.invokevirtual 339) 3 130 from ⟨by decide +kernel, rfl⟩) w_m_RX11_339 w_in_X9_only rfl w_se_X9_only w_cw_X9_only (c_X9_only v3 x2.toInt64 g) rfl rfl (by decide) (Nat.le_of_ble_eq_true rfl) (by decide) (by decide) (fun g4 => ?_)
    refine J_iload_n rfl rfl (show Dc Y_X11_law 130 (.iload_n 2) 1 131 from ⟨by decide +kernel, rfl⟩) ?_
    refine J_callSi (fun r => r) (fun _ => g4) (show Dc Y_X11_law 131 (.invokestatic 255) 3 134 from ⟨by decide +kernel, rfl⟩) w_m_RX11_255 w_st_J6_bitCount_0f7a4 w_cw_J6_bitCount_0f7a4 (c_J6_bitCount_0f7a4 x2 g4) rfl rfl (by decide) (Nat.le_of_ble_eq_true rfl) (by decide) (by decide) (fun v5 => ?_)
    exact J_reti (show Dc Y_X11_law 134 (.ireturn) 1 135 from ⟨by decide +kernel, rfl⟩) rfl (h0 _ _) (by decide) (by decide)
  · refine J_aload_n rfl rfl (show Dc Y_X11_law 46 (.aload_n 0) 1 47 from ⟨by decide +kernel, rfl⟩) ?_
    refine J_getR (show Dc Y_X11_law 47 (.getfield 79) 3 50 from ⟨by decide +kernel, rfl⟩) w_f_RX11_79 rfl (fun v6 => ?_)
    refine J_aload_n rfl rfl (show Dc Y_X11_law 50 (.aload_n 0) 1 51 from ⟨by decide +kernel, rfl⟩) ?_
    refine J_getR (show Dc Y_X11_law 51 (.getfield 47) 3 54 from ⟨by decide +kernel, rfl⟩) w_f_RX11_47 rfl (fun v7 => ?_)
    refine J_getR (show Dc Y_X11_law 54 (.getfield 171) 3 57 from ⟨by decide +kernel, rfl⟩) w_f_RX11_171 rfl (fun v8 => ?_)
    refine J_iload_n rfl rfl (show Dc Y_X11_law 57 (.iload_n 3) 1 58 from ⟨by decide +kernel, rfl⟩) ?_
    refine J_aald (kd := 25) (by decide) (by decide) (show Dc Y_X11_law 58 (.aaload) 1 59 from ⟨by decide +kernel, rfl⟩) (fun v9 => ?_)
    refine J_aload_n rfl rfl (show Dc Y_X11_law 59 (.aload_n 0) 1 60 from ⟨by decide +kernel, rfl⟩) ?_
    refine J_getR (show Dc Y_X11_law 60 (.getfield 37) 3 63 from ⟨by decide +kernel, rfl⟩) w_f_RX11_37 rfl (fun v10 => ?_)
    refine J_aload_n rfl rfl (show Dc Y_X11_law 63 (.aload_n 0) 1 64 from ⟨by decide +kernel, rfl⟩) ?_
    refine J_getR (show Dc Y_X11_law 64 (.getfield 30) 3 67 from ⟨by decide +kernel, rfl⟩) w_f_RX11_30 rfl (fun v11 => ?_)
    refine J_callVv (fun r => r) (show Dc Y_X11_law 67 (.invokevirtual 289) 3 70 from ⟨by decide +kernel, rfl⟩) w_m_RX11_289 w_in_X10_follow rfl w_se_X10_follow w_cw_X10_follow (c_X10_follow N v6 v9 v10 v11 g) rfl rfl (by decide) (Nat.le_of_ble_eq_true rfl) (by decide) (by decide) (fun g12 => ?_)
    refine J_aload_n rfl rfl (show Dc Y_X11_law 70 (.aload_n 0) 1 71 from ⟨by decide +kernel, rfl⟩) ?_
    refine J_getR (show Dc Y_X11_law 71 (.getfield 83) 3 74 from ⟨by decide +kernel, rfl⟩) w_f_RX11_83 rfl (fun v13 => ?_)
    refine J_aload_n rfl rfl (show Dc Y_X11_law 74 (.aload_n 0) 1 75 from ⟨by decide +kernel, rfl⟩) ?_
    refine J_getR (show Dc Y_X11_law 75 (.getfield 47) 3 78 from ⟨by decide +kernel, rfl⟩) w_f_RX11_47 rfl (fun v14 => ?_)
    refine J_getR (show Dc Y_X11_law 78 (.getfield 171) 3 81 from ⟨by decide +kernel, rfl⟩) w_f_RX11_171 rfl (fun v15 => ?_)
    refine J_iload_n rfl rfl (show Dc Y_X11_law 81 (.iload_n 3) 1 82 from ⟨by decide +kernel, rfl⟩) ?_
    refine J_aald (kd := 25) (by decide) (by decide) (show Dc Y_X11_law 82 (.aaload) 1 83 from ⟨by decide +kernel, rfl⟩) (fun v16 => ?_)
    refine J_aload_n rfl rfl (show Dc Y_X11_law 83 (.aload_n 0) 1 84 from ⟨by decide +kernel, rfl⟩) ?_
    refine J_getR (show Dc Y_X11_law 84 (.getfield 41) 3 87 from ⟨by decide +kernel, rfl⟩) w_f_RX11_41 rfl (fun v17 => ?_)
    refine J_aload_n rfl rfl (show Dc Y_X11_law 87 (.aload_n 0) 1 88 from ⟨by decide +kernel, rfl⟩) ?_
    refine J_getR (show Dc Y_X11_law 88 (.getfield 30) 3 91 from ⟨by decide +kernel, rfl⟩) w_f_RX11_30 rfl (fun v18 => ?_)
    refine J_callVv (fun r => r) (show Dc Y_X11_law 91 (.invokevirtual 289) 3 94 from ⟨by decide +kernel, rfl⟩) w_m_RX11_289 w_in_X10_follow rfl w_se_X10_follow w_cw_X10_follow (c_X10_follow N v13 v16 v17 v18 g12) rfl rfl (by decide) (Nat.le_of_ble_eq_true rfl) (by decide) (by decide) (fun g19 => ?_)
    refine J_aload_n rfl rfl (show Dc Y_X11_law 94 (.aload_n 0) 1 95 from ⟨by decide +kernel, rfl⟩) ?_
    refine J_getR (show Dc Y_X11_law 95 (.getfield 79) 3 98 from ⟨by decide +kernel, rfl⟩) w_f_RX11_79 rfl (fun v20 => ?_)
    refine J_aload_n rfl rfl (show Dc Y_X11_law 98 (.aload_n 0) 1 99 from ⟨by decide +kernel, rfl⟩) ?_
    refine J_getR (show Dc Y_X11_law 99 (.getfield 83) 3 102 from ⟨by decide +kernel, rfl⟩) w_f_RX11_83 rfl (fun v21 => ?_)
    refine J_callVi (fun r => r) (fun _ => g19) (show Dc Y_X11_law 102 (.invokevirtual 348) 3 105 from ⟨by decide +kernel, rfl⟩) w_m_RX11_348 w_in_X10_differsAt rfl w_se_X10_differsAt w_cw_X10_differsAt (c_X10_differsAt N v20 v21 g19) rfl rfl (by decide) (Nat.le_of_ble_eq_true rfl) (by decide) (by decide) (fun v22 => ?_)
    refine J_iconst (-1 : Int32) rfl (show Dc Y_X11_law 105 (.iconst (-1)) 1 106 from ⟨by decide +kernel, rfl⟩) ?_
    refine J_icmp_eq (tg := 115) (show Dc Y_X11_law 106 (.if_icmp .eq 9) 3 109 from ⟨by decide +kernel, rfl⟩) (by decide) (fun h => ?_) (fun h => ?_)
    · exact j_X11_law_115 N x0 x2 x3 g19 h0 hL35
    · refine J_iload_n rfl rfl (show Dc Y_X11_law 109 (.iload_n 2) 1 110 from ⟨by decide +kernel, rfl⟩) ?_
      refine J_iconst (1 : Int32) rfl (show Dc Y_X11_law 110 (.iconst 1) 1 111 from ⟨by decide +kernel, rfl⟩) ?_
      refine J_iload_n rfl rfl (show Dc Y_X11_law 111 (.iload_n 3) 1 112 from ⟨by decide +kernel, rfl⟩) ?_
      refine J_ishl (show Dc Y_X11_law 112 (.ishl) 1 113 from ⟨by decide +kernel, rfl⟩) ?_
      refine J_ior (show Dc Y_X11_law 113 (.ior) 1 114 from ⟨by decide +kernel, rfl⟩) ?_
      refine J_istore_n [some (.ref x0), none, some (.int (x2 ||| ((1 : Int32) <<< (x3 &&& 31)))), some (.int x3)] (show Dc Y_X11_law 114 (.istore_n 2) 1 115 from ⟨by decide +kernel, rfl⟩) rfl (by decide) rfl rfl ?_
      exact j_X11_law_115 N x0 (x2 ||| ((1 : Int32) <<< (x3 &&& 31))) x3 g19 h0 hL35

theorem j_X11_law {X : ZX} (N : Nat) (x0 : Nat)   (g : ZS) {K : (Int32 × ZS) → Prop} (h0 : ∀ v g, K (v, g) → xK X (some (.int v)) g) : J Y_X11_law X 0 0 0 [some (.ref x0), none, none, none] [] g (f_X11_law N x0 g) K := by
  unfold f_X11_law
  refine J_aload_n rfl rfl (show Dc Y_X11_law 0 (.aload_n 0) 1 1 from ⟨by decide +kernel, rfl⟩) ?_
  refine J_getR (show Dc Y_X11_law 1 (.getfield 41) 3 4 from ⟨by decide +kernel, rfl⟩) w_f_RX11_41 rfl (fun v1 => ?_)
  refine J_aload_n rfl rfl (show Dc Y_X11_law 4 (.aload_n 0) 1 5 from ⟨by decide +kernel, rfl⟩) ?_
  refine J_getR (show Dc Y_X11_law 5 (.getfield 10) 3 8 from ⟨by decide +kernel, rfl⟩) w_f_RX11_10 rfl (fun v2 => ?_)
  refine J_callVi (fun r => r.1) (fun r => r.2) (show Dc Y_X11_law 8 (.invokevirtual 157) 3 11 from ⟨by decide +kernel, rfl⟩) w_m_RX11_157 w_in_X5_readFrom rfl w_se_X5_readFrom w_cw_X5_readFrom (c_X5_readFrom N v1 v2 g) rfl rfl (by decide) (Nat.le_of_ble_eq_true rfl) (by decide) (by decide) (fun r3 => ?_)
  refine J_istore_n [some (.ref x0), some (.int r3.1), none, none] (show Dc Y_X11_law 11 (.istore_n 1) 1 12 from ⟨by decide +kernel, rfl⟩) rfl (by decide) rfl rfl ?_
  refine J_aload_n rfl rfl (show Dc Y_X11_law 12 (.aload_n 0) 1 13 from ⟨by decide +kernel, rfl⟩) ?_
  refine J_getR (show Dc Y_X11_law 13 (.getfield 10) 3 16 from ⟨by decide +kernel, rfl⟩) w_f_RX11_10 rfl (fun v4 => ?_)
  refine J_iconst (0 : Int32) rfl (show Dc Y_X11_law 16 (.iconst 0) 1 17 from ⟨by decide +kernel, rfl⟩) ?_
  refine J_putI (show Dc Y_X11_law 17 (.putfield 110) 3 20 from ⟨by decide +kernel, rfl⟩) w_f_RX11_110 rfl rfl (fun g5 => ?_) (fun h => by cases h)
  refine J_iload_n rfl rfl (show Dc Y_X11_law 20 (.iload_n 1) 1 21 from ⟨by decide +kernel, rfl⟩) ?_
  refine J_iconst (-1 : Int32) rfl (show Dc Y_X11_law 21 (.iconst (-1)) 1 22 from ⟨by decide +kernel, rfl⟩) ?_
  refine J_icmp_eq (tg := 31) (show Dc Y_X11_law 22 (.if_icmp .eq 9) 3 25 from ⟨by decide +kernel, rfl⟩) (by decide) (fun h => ?_) (fun h => ?_)
  · refine J_iconst (0 : Int32) rfl (show Dc Y_X11_law 31 (.iconst 0) 1 32 from ⟨by decide +kernel, rfl⟩) ?_
    refine J_istore_n [some (.ref x0), some (.int r3.1), some (.int (0 : Int32)), none] (show Dc Y_X11_law 32 (.istore_n 2) 1 33 from ⟨by decide +kernel, rfl⟩) rfl (by decide) rfl rfl ?_
    refine J_iconst (0 : Int32) rfl (show Dc Y_X11_law 33 (.iconst 0) 1 34 from ⟨by decide +kernel, rfl⟩) ?_
    refine J_istore_n [some (.ref x0), some (.int r3.1), some (.int (0 : Int32)), some (.int (0 : Int32))] (show Dc Y_X11_law 34 (.istore_n 3) 1 35 from ⟨by decide +kernel, rfl⟩) rfl (by decide) rfl rfl ?_
    refine J_mask [true, false, true, true] ?_
    exact J_loop (X := X) (K := K) (uc := fun _ => 0) (us := fun _ => 0) (lf := fun s => [some (.ref x0), none, some (.int s.1), some (.int s.2.1)]) (gf := fun s => s.2.2) (fun s => j_X11_law_35 (K := zKl Y_X11_law X 35 (fun _ => 0) (fun _ => 0) (fun s => [some (.ref x0), none, some (.int s.1), some (.int s.2.1)]) (fun s => s.2.2) K) N x0 s.1 s.2.1 s.2.2 h0 (fun s h => h)) N ((0 : Int32), (0 : Int32), g5)
  · refine J_sipush (-10000 : Int32) rfl (show Dc Y_X11_law 25 (.sipush (-10000)) 3 28 from ⟨by decide +kernel, rfl⟩) ?_
    refine J_iload_n rfl rfl (show Dc Y_X11_law 28 (.iload_n 1) 1 29 from ⟨by decide +kernel, rfl⟩) ?_
    refine J_isub (show Dc Y_X11_law 29 (.isub) 1 30 from ⟨by decide +kernel, rfl⟩) ?_
    exact J_reti (show Dc Y_X11_law 30 (.ireturn) 1 31 from ⟨by decide +kernel, rfl⟩) rfl (h0 _ _) (by decide) (by decide)

theorem c_X11_law {l : Launch} {D : ZD} {B0 : Nat} (N : Nat) (x0 : Nat) (g : ZS) : ∀ r, f_X11_law N x0 g = some r → zCt l D B0 yX11_law Y_X11_law [.ref x0] g (some (.int r.1)) r.2 :=
  zCt_ofF (vo := fun r => some (.int r.1)) (so := fun r => r.2) (by decide +kernel) rfl (fun h => by cases h) rfl (Nat.le_of_ble_eq_true rfl) (fun X => j_X11_law N x0 g (fun _ _ h => h))
