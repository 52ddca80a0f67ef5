def f_X12_coded_21 (N : Nat) (x0 : Nat) (x3 : Int32) (x4 : Int32)  (g : ZS) : Option ((Int32 × Int32) ⊕ (Int32 × ZS)) :=
  if x4 < 0 then
    (
      some (x3, g)).map Sum.inr
  else
    (zrdR g x0 12 22).bind fun v1 =>
    (zald 20 g v1 x4).bind fun v2 =>
    some (.inl ((((9 : Int32) * x3) + v2) + (1 : Int32), x4 + (-1 : Int32)))

def f_X12_coded (N : Nat) (x0 : Nat) (x1 : Int32)  (g : ZS) : Option (Int32 × ZS) :=
  (zrdR g x0 12 0).bind fun v1 =>
  (zrdR g x0 12 22).bind fun v2 =>
  zvs g x0 12 <| (f_X12_laySays N x0 v1 x1 v2 g).bind fun r3 =>
  zloop (fun s => f_X12_coded_21 N x0 s.1 s.2 r3.2) N ((0 : Int32), r3.1 - (1 : Int32))

def f_X12_law_146 (N : Nat) (x0 : Nat) (x2 : Nat) (x3 : Int32) (x5 : Int32) (s0 : Int32) (s1 : Int32) (g : ZS) : Option ((Int32 × Int32 × ZS) ⊕ (Int32 × ZS)) :=
  some (.inl (s0 ||| s1, x5 + (1 : Int32), g))

def f_X12_law_111 (N : Nat) (x0 : Nat) (x2 : Nat) (x3 : Int32) (x4 : Int32) (x5 : Int32)  (g : ZS) : Option ((Int32 × Int32 × ZS) ⊕ (Int32 × ZS)) :=
  (zrdI g x0 12 1).bind fun v1 =>
  if v1 ≤ x5 then
    (
      (zwrR g x0 12 17 x2).bind fun g2 =>
      (zwrI g2 x0 12 19 x3).bind fun g3 =>
      (zwrI g3 x0 12 9 (0 : Int32)).bind fun g4 =>
      zvs g4 x0 12 <| (f_X12_tell x0 x4.toInt64 g4).bind fun g5 =>
      (f_J6_bitCount_0f7a4 x4).bind fun v6 =>
      some (v6, g5)).map Sum.inr
  else
    zvs g x0 12 <| (f_X12_coded N x0 x5 g).bind fun r7 =>
    (zrdR r7.2 x0 12 42).bind fun v8 =>
    (zald 20 r7.2 v8 x5).bind fun v9 =>
    if r7.1 = v9 then
      f_X12_law_146 N x0 x2 x3 x5 x4 (0 : Int32) r7.2
    else
      f_X12_law_146 N x0 x2 x3 x5 x4 ((1 : Int32) <<< (x5 &&& 31)) r7.2

def f_X12_law_79 (N : Nat) (x0 : Nat) (x1 : Int32) (x2 : Nat) (x3 : Int32) (x4 : Int32)  (g : ZS) : Option ((Int32 × ZS) ⊕ (Int32 × ZS)) :=
  if x1 ≤ x4 then
    (
      zloop (fun s => f_X12_law_111 N x0 x2 x3 s.1 s.2.1 s.2.2) N ((0 : Int32), (0 : Int32), g)).map Sum.inr
  else
    (zrdR g x0 12 17).bind fun v1 =>
    (zrdR g x0 12 6).bind fun v2 =>
    (zald 21 g v2 x4).bind fun v3 =>
    (zast 21 g v1 x4 v3).bind fun g4 =>
    some (.inl (x4 + (1 : Int32), g4))

def f_X12_law_28 (N : Nat) (x0 : Nat) (x1 : Int32) (x2 : Int32)  (g : ZS) : Option ((Int32 × ZS) ⊕ (Int32 × ZS)) :=
  (zrdI g x0 12 1).bind fun v1 =>
  if v1 ≤ x2 then
    (
      (zrdR g x0 12 17).bind fun v2 =>
      (zrdI g x0 12 19).bind fun v3 =>
      (zrdR g x0 12 18).bind fun v4 =>
      (zwrR g x0 12 17 v4).bind fun g5 =>
      (zwrI g5 x0 12 19 x1).bind fun g6 =>
      zloop (fun s => f_X12_law_79 N x0 x1 v2 v3 s.1 s.2) N ((0 : Int32), g6)).map Sum.inr
  else
    (zrdR g x0 12 42).bind fun v7 =>
    zvs g x0 12 <| (f_X12_coded N x0 x2 g).bind fun r8 =>
    (zast 20 r8.2 v7 x2 r8.1).bind fun g9 =>
    some (.inl (x2 + (1 : Int32), g9))

def f_X12_law (N : Nat) (x0 : Nat)  (g : ZS) : Option (Int32 × ZS) :=
  (zwrI g x0 12 10 (0 : Int32)).bind fun g1 =>
  (zrdI g1 x0 12 7).bind fun v2 =>
  zvs g1 x0 12 <| (f_X12_readRule N x0 g1).bind fun r3 =>
  if r3.1 = 0 then
    (zrdI r3.2 x0 12 15).bind fun v4 =>
    some ((-10000 : Int32) - v4, r3.2)
  else
    zloop (fun s => f_X12_law_28 N x0 v2 s.1 s.2) N ((0 : Int32), r3.2)

def f_X12_years_188 (N : Nat) (x0 : Nat) (x2 : Int32) (x3 : Int32) (x4 : Int32)  (g : ZS) : Option ((Int32 × Int32 × ZS) ⊕ (Int32 × ZS)) :=
  some (.inl (x3, x4 + (1 : Int32), g))

def f_X12_years_148 (N : Nat) (x0 : Nat) (x2 : Int32) (x3 : Int32) (x4 : Int32) (x5 : Int32) (x6 : Int32)  (g : ZS) : Option ((Int32 × Int32 × ZS) ⊕ (Int32 × ZS)) :=
  if x5 = (4 : Int32) then
    zvs g x0 12 <| (f_X12_draw x0 (8 : Int32) g).bind fun r1 =>
    (zrdR r1.2 x0 12 28).bind fun v2 =>
    (f_X12_hasHeard v2 x6 r1.1 r1.2).bind fun v3 =>
    if v3 = 0 then
      f_X12_years_188 N x0 x2 x3 x4 r1.2
    else
      (zrdR r1.2 x0 12 28).bind fun v4 =>
      (f_X12_goTeach v4 x6 r1.1 (1 : Int32) r1.2).bind fun g5 =>
      f_X12_years_188 N x0 x2 x3 x4 g5
  else
    f_X12_years_188 N x0 x2 x3 x4 g

def f_X12_years_126 (N : Nat) (x0 : Nat) (x2 : Int32) (x3 : Int32) (x4 : Int32) (x5 : Int32) (x6 : Int32)  (g : ZS) : Option ((Int32 × Int32 × ZS) ⊕ (Int32 × ZS)) :=
  if x5 = (3 : Int32) then
    (zrdR g x0 12 28).bind fun v1 =>
    (f_X12_of x6 (0 : Int32)).bind fun v2 =>
    zvs g x0 12 <| (f_X12_draw x0 (4 : Int32) g).bind fun r3 =>
    (zast 20 r3.2 v1 v2 r3.1).bind fun g4 =>
    f_X12_years_148 N x0 x2 x3 x4 x5 x6 g4
  else
    f_X12_years_148 N x0 x2 x3 x4 x5 x6 g

def f_X12_years_67 (N : Nat) (x0 : Nat) (x2 : Int32) (x3 : Int32) (x4 : Int32) (x5 : Int32)  (g : ZS) : Option ((Int32 × Int32 × ZS) ⊕ (Int32 × ZS)) :=
  if x5 < (2 : Int32) then
    f_X12_years_188 N x0 x2 x3 x4 g
  else
    (zrdI g x0 12 1).bind fun v1 =>
    if v1 = 0 then
      f_X12_years_188 N x0 x2 x3 x4 g
    else
      (zrdI g x0 12 1).bind fun v2 =>
      zvs g x0 12 <| (f_X12_draw x0 v2 g).bind fun r3 =>
      if x5 = (2 : Int32) then
        (zrdR r3.2 x0 12 28).bind fun v4 =>
        zvs r3.2 x0 12 <| (f_X12_refusesSpeak N x0 v4 r3.1 r3.2).bind fun r5 =>
        if r5.1 = 0 then
          (zrdR r5.2 x0 12 28).bind fun v6 =>
          zvs r5.2 x0 12 <| (f_X12_goSpeak N x0 v6 r3.1 r5.2).bind fun r7 =>
          f_X12_years_126 N x0 x2 (x3 + (1 : Int32)) x4 x5 r3.1 r7.2
        else
          f_X12_years_126 N x0 x2 x3 x4 x5 r3.1 r5.2
      else
        f_X12_years_126 N x0 x2 x3 x4 x5 r3.1 r3.2

def f_X12_years_203 (N : Nat) (x0 : Nat) (x3 : Int32) (x4 : Int32) (x5 : Int32) (x6 : Int32)  (g : ZS) : Option ((Int32 × Int32 × Int32) ⊕ (Int32 × ZS)) :=
  (zrdI g x0 12 1).bind fun v1 =>
  if v1 ≤ x6 then
    (
      (zwrI g x0 12 9 (0 : Int32)).bind fun g2 =>
      zvs g2 x0 12 <| (f_X12_tell x0 x4.toInt64 g2).bind fun g3 =>
      zvs g3 x0 12 <| (f_X12_tell x0 x5.toInt64 g3).bind fun g4 =>
      some (x3, g4)).map Sum.inr
  else
    (zrdR g x0 12 28).bind fun v5 =>
    (f_X12_of x6 (2 : Int32)).bind fun v6 =>
    (zald 20 g v5 v6).bind fun v7 =>
    (zrdR g x0 12 28).bind fun v8 =>
    (f_X12_heardBits N v8 x6 g).bind fun v9 =>
    some (.inl (x4 + v7, x5 ||| v9, x6 + (1 : Int32)))

def f_X12_years_39 (N : Nat) (x0 : Nat) (x2 : Int32) (x3 : Int32) (x4 : Int32)  (g : ZS) : Option ((Int32 × Int32 × ZS) ⊕ (Int32 × ZS)) :=
  if x2 ≤ x4 then
    (
      zloop (fun s => f_X12_years_203 N x0 x3 s.1 s.2.1 s.2.2 g) N ((0 : Int32), (0 : Int32), (0 : Int32))).map Sum.inr
  else
    zvs g x0 12 <| (f_X12_draw x0 (5 : Int32) g).bind fun r1 =>
    if (2 : Int32) ≤ r1.1 then
      f_X12_years_67 N x0 x2 x3 x4 r1.1 r1.2
    else
      (zrdR r1.2 x0 12 28).bind fun v2 =>
      zvs r1.2 x0 12 <| (f_X12_goDays N x0 v2 (1 : Int32) r1.2).bind fun g3 =>
      f_X12_years_67 N x0 x2 x3 x4 r1.1 g3

def f_X12_years (N : Nat) (x0 : Nat) (x1 : Int32) (x2 : Int32)  (g : ZS) : Option (Int32 × ZS) :=
  (zwrI g x0 12 10 (0 : Int32)).bind fun g1 =>
  (f_X12_in x2 (1 : Int32) (60 : Int32)).bind fun v2 =>
  if v2 = 0 then
    some ((-1 : Int32), g1)
  else
    (zwrI g1 x0 12 43 x1).bind fun g3 =>
    (zrdR g3 x0 12 0).bind fun v4 =>
    (zrdR g3 x0 12 28).bind fun v5 =>
    (f_X12_lay N v4 v5 (0 : Int32) g3).bind fun g6 =>
    zloop (fun s => f_X12_years_39 N x0 x2 s.1 s.2.1 s.2.2) N ((0 : Int32), (0 : Int32), g6)

theorem j_X12_coded_21 {X : ZX} (N : Nat) (x0 : Nat) (x3 : Int32) (x4 : Int32)   (g : ZS) {K : ((Int32 × Int32) ⊕ (Int32 × ZS)) → Prop} (h0 : ∀ v g, K (.inr (v, g)) → xK X (some (.int v)) g) (hL21 : ∀ s, K (.inl s) → zG Y_X12_coded X 0 0 21 [some (.ref x0), none, none, some (.int s.1), some (.int s.2)] [] g) : J Y_X12_coded X 0 0 21 [some (.ref x0), none, none, some (.int x3), some (.int x4)] [] g (f_X12_coded_21 N x0 x3 x4 g) K := by
  unfold f_X12_coded_21
  refine J_iload rfl (show Dc Y_X12_coded 21 (.iload 4) 2 23 from ⟨by decide +kernel, rfl⟩) ?_
  refine J_if_lt (tg := 47) (show Dc Y_X12_coded 23 (.ifCond .lt 24) 3 26 from ⟨by decide +kernel, rfl⟩) (by decide) (fun h => ?_) (fun h => ?_)
  · refine J_map (f := Sum.inr) (fun _ h => h) ?_
    refine J_iload_n rfl rfl (show Dc Y_X12_coded 47 (.iload_n 3) 1 48 from ⟨by decide +kernel, rfl⟩) ?_
    exact J_reti (show Dc Y_X12_coded 48 (.ireturn) 1 49 from ⟨by decide +kernel, rfl⟩) rfl (h0 _ _) (by decide) (by decide)
  · refine J_bipush (9 : Int32) rfl (show Dc Y_X12_coded 26 (.bipush 9) 2 28 from ⟨by decide +kernel, rfl⟩) ?_
    refine J_iload_n rfl rfl (show Dc Y_X12_coded 28 (.iload_n 3) 1 29 from ⟨by decide +kernel, rfl⟩) ?_
    refine J_imul (show Dc Y_X12_coded 29 (.imul) 1 30 from ⟨by decide +kernel, rfl⟩) ?_
    refine J_aload_n rfl rfl (show Dc Y_X12_coded 30 (.aload_n 0) 1 31 from ⟨by decide +kernel, rfl⟩) ?_
    refine J_getR (show Dc Y_X12_coded 31 (.getfield 45) 3 34 from ⟨by decide +kernel, rfl⟩) w_f_RX12_45 rfl (fun v1 => ?_)
    refine J_iload rfl (show Dc Y_X12_coded 34 (.iload 4) 2 36 from ⟨by decide +kernel, rfl⟩) ?_
    refine J_iald (show Dc Y_X12_coded 36 (.iaload) 1 37 from ⟨by decide +kernel, rfl⟩) (fun v2 => ?_)
    refine J_iadd (show Dc Y_X12_coded 37 (.iadd) 1 38 from ⟨by decide +kernel, rfl⟩) ?_
    refine J_iconst (1 : Int32) rfl (show Dc Y_X12_coded 38 (.iconst 1) 1 39 from ⟨by decide +kernel, rfl⟩) ?_
    refine J_iadd (show Dc Y_X12_coded 39 (.iadd) 1 40 from ⟨by decide +kernel, rfl⟩) ?_
    refine J_istore_n [some (.ref x0), none, none, some (.int ((((9 : Int32) * x3) + v2) + (1 : Int32))), some (.int x4)] (show Dc Y_X12_coded 40 (.istore_n 3) 1 41 from ⟨by decide +kernel, rfl⟩) rfl (by decide) rfl rfl ?_
    refine J_iinc (-1 : Int32) [some (.ref x0), none, none, some (.int ((((9 : Int32) * x3) + v2) + (1 : Int32))), some (.int (x4 + (-1 : Int32)))] (show Dc Y_X12_coded 41 (.iinc 4 (-1)) 3 44 from ⟨by decide +kernel, rfl⟩) rfl rfl (by decide) rfl rfl ?_
    refine J_goto (tg := 21) (show Dc Y_X12_coded 44 (.goto (-23)) 3 47 from ⟨by decide +kernel, rfl⟩) (by decide) ?_
    exact J_leaf (fun h => hL21 ((((9 : Int32) * x3) + v2) + (1 : Int32), x4 + (-1 : Int32)) h)

theorem j_X12_coded {X : ZX} (N : Nat) (x0 : Nat) (x1 : Int32)   (g : ZS) {K : (Int32 × ZS) → Prop} (h0 : ∀ v g, K (v, g) → xK X (some (.int v)) g) : J Y_X12_coded X 0 0 0 [some (.ref x0), some (.int x1), none, none, none] [] g (f_X12_coded N x0 x1 g) K := by
  unfold f_X12_coded
  refine J_aload_n rfl rfl (show Dc Y_X12_coded 0 (.aload_n 0) 1 1 from ⟨by decide +kernel, rfl⟩) ?_
  refine J_aload_n rfl rfl (show Dc Y_X12_coded 1 (.aload_n 0) 1 2 from ⟨by decide +kernel, rfl⟩) ?_
  refine J_getR (show Dc Y_X12_coded 2 (.getfield 9) 3 5 from ⟨by decide +kernel, rfl⟩) w_f_RX12_9 rfl (fun v1 => ?_)
  refine J_iload_n rfl rfl (show Dc Y_X12_coded 5 (.iload_n 1) 1 6 from ⟨by decide +kernel, rfl⟩) ?_
  refine J_aload_n rfl rfl (show Dc Y_X12_coded 6 (.aload_n 0) 1 7 from ⟨by decide +kernel, rfl⟩) ?_
  refine J_getR (show Dc Y_X12_coded 7 (.getfield 45) 3 10 from ⟨by decide +kernel, rfl⟩) w_f_RX12_45 rfl (fun v2 => ?_)
  refine J_callVi (fun r => r.1) (fun r => r.2) (show Dc Y_X12_coded 10 (.invokevirtual 291) 3 13 from ⟨by decide +kernel, rfl⟩) w_m_RX12_291 w_in_X12_laySays rfl w_se_X12_laySays w_cw_X12_laySays (c_X12_laySays N x0 v1 x1 v2 g) rfl rfl (by decide) (Nat.le_of_ble_eq_true rfl) (by decide) (by decide) (fun r3 => ?_)
  refine J_istore_n [some (.ref x0), some (.int x1), some (.int r3.1), none, none] (show Dc Y_X12_coded 13 (.istore_n 2) 1 14 from ⟨by decide +kernel, rfl⟩) rfl (by decide) rfl rfl ?_
  refine J_iconst (0 : Int32) rfl (show Dc Y_X12_coded 14 (.iconst 0) 1 15 from ⟨by decide +kernel, rfl⟩) ?_
  refine J_istore_n [some (.ref x0), some (.int x1), some (.int r3.1), some (.int (0 : Int32)), none] (show Dc Y_X12_coded 15 (.istore_n 3) 1 16 from ⟨by decide +kernel, rfl⟩) rfl (by decide) rfl rfl ?_
  refine J_iload_n rfl rfl (show Dc Y_X12_coded 16 (.iload_n 2) 1 17 from ⟨by decide +kernel, rfl⟩) ?_
  refine J_iconst (1 : Int32) rfl (show Dc Y_X12_coded 17 (.iconst 1) 1 18 from ⟨by decide +kernel, rfl⟩) ?_
  refine J_isub (show Dc Y_X12_coded 18 (.isub) 1 19 from ⟨by decide +kernel, rfl⟩) ?_
  refine J_istore [some (.ref x0), some (.int x1), some (.int r3.1), some (.int (0 : Int32)), some (.int (r3.1 - (1 : Int32)))] (show Dc Y_X12_coded 19 (.istore 4) 2 21 from ⟨by decide +kernel, rfl⟩) (by decide) rfl rfl ?_
  refine J_mask [true, false, false, true, true] ?_
  exact J_loop (X := X) (K := K) (uc := fun _ => 0) (us := fun _ => 0) (lf := fun s => [some (.ref x0), none, none, some (.int s.1), some (.int s.2)]) (gf := fun s => r3.2) (fun s => j_X12_coded_21 (K := zKl Y_X12_coded X 21 (fun _ => 0) (fun _ => 0) (fun s => [some (.ref x0), none, none, some (.int s.1), some (.int s.2)]) (fun s => r3.2) K) N x0 s.1 s.2 r3.2 h0 (fun s h => h)) N ((0 : Int32), r3.1 - (1 : Int32))

theorem c_X12_coded {l : Launch} {D : ZD} {B0 : Nat} (N : Nat) (x0 : Nat) (x1 : Int32) (g : ZS) : ∀ r, f_X12_coded N x0 x1 g = some r → zCt l D B0 yX12_coded Y_X12_coded [.ref x0, .int x1] g (some (.int r.1)) r.2 :=
  zCt_ofF (vo := fun r => some (.int r.1)) (so := fun r => r.2) (by decide +kernel) rfl (fun h => by cases h) rfl (Nat.le_of_ble_eq_true rfl) (fun X => j_X12_coded N x0 x1 g (fun _ _ h => h))

theorem j_X12_law_146 {X : ZX} (N : Nat) (x0 : Nat) (x2 : Nat) (x3 : Int32) (x5 : Int32) (s0 : Int32) (s1 : Int32)  (g : ZS) {K : ((Int32 × Int32 × ZS) ⊕ (Int32 × ZS)) → Prop} (h0 : ∀ v g, K (.inr (v, g)) → xK X (some (.int v)) g) (hL111 : ∀ s, K (.inl s) → zG Y_X12_law X 0 0 111 [some (.ref x0), none, some (.ref x2), some (.int x3), some (.int s.1), some (.int s.2.1)] [] s.2.2) : J Y_X12_law X 0 0 146 [some (.ref x0), none, some (.ref x2), some (.int x3), none, some (.int x5)] [.int s1, .int s0] g (f_X12_law_146 N x0 x2 x3 x5 s0 s1 g) K := by
  unfold f_X12_law_146
  refine J_ior (show Dc Y_X12_law 146 (.ior) 1 147 from ⟨by decide +kernel, rfl⟩) ?_
  refine J_istore [some (.ref x0), none, some (.ref x2), some (.int x3), some (.int (s0 ||| s1)), some (.int x5)] (show Dc Y_X12_law 147 (.istore 4) 2 149 from ⟨by decide +kernel, rfl⟩) (by decide) rfl rfl ?_
  refine J_iinc (1 : Int32) [some (.ref x0), none, some (.ref x2), some (.int x3), some (.int (s0 ||| s1)), some (.int (x5 + (1 : Int32)))] (show Dc Y_X12_law 149 (.iinc 5 1) 3 152 from ⟨by decide +kernel, rfl⟩) rfl rfl (by decide) rfl rfl ?_
  refine J_goto (tg := 111) (show Dc Y_X12_law 152 (.goto (-41)) 3 155 from ⟨by decide +kernel, rfl⟩) (by decide) ?_
  exact J_leaf (fun h => hL111 (s0 ||| s1, x5 + (1 : Int32), g) h)

theorem j_X12_law_111 {X : ZX} (N : Nat) (x0 : Nat) (x2 : Nat) (x3 : Int32) (x4 : Int32) (x5 : Int32)   (g : ZS) {K : ((Int32 × Int32 × ZS) ⊕ (Int32 × ZS)) → Prop} (h0 : ∀ v g, K (.inr (v, g)) → xK X (some (.int v)) g) (hL111 : ∀ s, K (.inl s) → zG Y_X12_law X 0 0 111 [some (.ref x0), none, some (.ref x2), some (.int x3), some (.int s.1), some (.int s.2.1)] [] s.2.2) : J Y_X12_law X 0 0 111 [some (.ref x0), none, some (.ref x2), some (.int x3), some (.int x4), some (.int x5)] [] g (f_X12_law_111 N x0 x2 x3 x4 x5 g) K := by
  unfold f_X12_law_111
  refine J_iload rfl (show Dc Y_X12_law 111 (.iload 5) 2 113 from ⟨by decide +kernel, rfl⟩) ?_
  refine J_aload_n rfl rfl (show Dc Y_X12_law 113 (.aload_n 0) 1 114 from ⟨by decide +kernel, rfl⟩) ?_
  refine J_getI (show Dc Y_X12_law 114 (.getfield 116) 3 117 from ⟨by decide +kernel, rfl⟩) w_f_RX12_116 rfl (fun v1 => ?_)
  refine J_icmp_ge (tg := 155) (show Dc Y_X12_law 117 (.if_icmp .ge 38) 3 120 from ⟨by decide +kernel, rfl⟩) (by decide) (fun h => ?_) (fun h => ?_)
  · refine J_map (f := Sum.inr) (fun _ h => h) ?_
    refine J_aload_n rfl rfl (show Dc Y_X12_law 155 (.aload_n 0) 1 156 from ⟨by decide +kernel, rfl⟩) ?_
    refine J_aload_n rfl rfl (show Dc Y_X12_law 156 (.aload_n 2) 1 157 from ⟨by decide +kernel, rfl⟩) ?_
    refine J_putR (show Dc Y_X12_law 157 (.putfield 36) 3 160 from ⟨by decide +kernel, rfl⟩) w_f_RX12_36 rfl (Or.inr rfl) (fun g2 => ?_) (fun h => by cases h)
    refine J_aload_n rfl rfl (show Dc Y_X12_law 160 (.aload_n 0) 1 161 from ⟨by decide +kernel, rfl⟩) ?_
    refine J_iload_n rfl rfl (show Dc Y_X12_law 161 (.iload_n 3) 1 162 from ⟨by decide +kernel, rfl⟩) ?_
    refine J_putI (show Dc Y_X12_law 162 (.putfield 218) 3 165 from ⟨by decide +kernel, rfl⟩) w_f_RX12_218 rfl rfl (fun g3 => ?_) (fun h => by cases h)
    refine J_aload_n rfl rfl (show Dc Y_X12_law 165 (.aload_n 0) 1 166 from ⟨by decide +kernel, rfl⟩) ?_
    refine J_iconst (0 : Int32) rfl (show Dc Y_X12_law 166 (.iconst 0) 1 167 from ⟨by decide +kernel, rfl⟩) ?_
    refine J_putI (show Dc Y_X12_law 167 (.putfield 113) 3 170 from ⟨by decide +kernel, rfl⟩) w_f_RX12_113 rfl rfl (fun g4 => ?_) (fun h => by cases h)
    refine J_aload_n rfl rfl (show Dc Y_X12_law 170 (.aload_n 0) 1 171 from ⟨by decide +kernel, rfl⟩) ?_
    refine J_iload rfl (show Dc Y_X12_law 171 (.iload 4) 2 173 from ⟨by decide +kernel, rfl⟩) ?_
    refine J_i2l (show Dc Y_X12_law 173 (.i2l) 1 174 from ⟨by decide +kernel, rfl⟩) ?_
    refine J_callVv (fun r => r) (show Dc Y_X12_law 174 (.invokevirtual 274) 3 177 from ⟨by decide +kernel, rfl⟩) w_m_RX12_274 w_in_X12_tell rfl w_se_X12_tell w_cw_X12_tell (c_X12_tell x0 x4.toInt64 g4) rfl rfl (by decide) (Nat.le_of_ble_eq_true rfl) (by decide) (by decide) (fun g5 => ?_)
    refine J_iload rfl (show Dc Y_X12_law 177 (.iload 4) 2 179 from ⟨by decide +kernel, rfl⟩) ?_
    refine J_callSi (fun r => r) (fun _ => g5) (show Dc Y_X12_law 179 (.invokestatic 269) 3 182 from ⟨by decide +kernel, rfl⟩) w_m_RX12_269 w_st_J6_bitCount_0f7a4 w_cw_J6_bitCount_0f7a4 (c_J6_bitCount_0f7a4 x4 g5) rfl rfl (by decide) (Nat.le_of_ble_eq_true rfl) (by decide) (by decide) (fun v6 => ?_)
    exact J_reti (show Dc Y_X12_law 182 (.ireturn) 1 183 from ⟨by decide +kernel, rfl⟩) rfl (h0 _ _) (by decide) (by decide)
  · refine J_iload rfl (show Dc Y_X12_law 120 (.iload 4) 2 122 from ⟨by decide +kernel, rfl⟩) ?_
    refine J_aload_n rfl rfl (show Dc Y_X12_law 122 (.aload_n 0) 1 123 from ⟨by decide +kernel, rfl⟩) ?_
    refine J_iload rfl (show Dc Y_X12_law 123 (.iload 5) 2 125 from ⟨by decide +kernel, rfl⟩) ?_
    refine J_callVi (fun r => r.1) (fun r => r.2) (show Dc Y_X12_law 125 (.invokevirtual 388) 3 128 from ⟨by decide +kernel, rfl⟩) w_m_RX12_388 w_in_X12_coded rfl w_se_X12_coded w_cw_X12_coded (c_X12_coded N x0 x5 g) rfl rfl (by decide) (Nat.le_of_ble_eq_true rfl) (by decide) (by decide) (fun r7 => ?_)
    refine J_aload_n rfl rfl (show Dc Y_X12_law 128 (.aload_n 0) 1 129 from ⟨by decide +kernel, rfl⟩) ?_
    refine J_getR (show Dc Y_X12_law 129 (.getfield 96) 3 132 from ⟨by decide +kernel, rfl⟩) w_f_RX12_96 rfl (fun v8 => ?_)
    refine J_iload rfl (show Dc Y_X12_law 132 (.iload 5) 2 134 from ⟨by decide +kernel, rfl⟩) ?_
    refine J_iald (show Dc Y_X12_law 134 (.iaload) 1 135 from ⟨by decide +kernel, rfl⟩) (fun v9 => ?_)
    refine J_icmp_ne (tg := 142) (show Dc Y_X12_law 135 (.if_icmp .ne 7) 3 138 from ⟨by decide +kernel, rfl⟩) (by decide) (fun h => ?_) (fun h => ?_)
    · refine J_iconst (1 : Int32) rfl (show Dc Y_X12_law 142 (.iconst 1) 1 143 from ⟨by decide +kernel, rfl⟩) ?_
      refine J_iload rfl (show Dc Y_X12_law 143 (.iload 5) 2 145 from ⟨by decide +kernel, rfl⟩) ?_
      refine J_ishl (show Dc Y_X12_law 145 (.ishl) 1 146 from ⟨by decide +kernel, rfl⟩) ?_
      refine J_mask [true, false, true, true, false, true] ?_
      exact j_X12_law_146 N x0 x2 x3 x5 x4 ((1 : Int32) <<< (x5 &&& 31)) r7.2 h0 hL111
    · refine J_iconst (0 : Int32) rfl (show Dc Y_X12_law 138 (.iconst 0) 1 139 from ⟨by decide +kernel, rfl⟩) ?_
      refine J_goto (tg := 146) (show Dc Y_X12_law 139 (.goto 7) 3 142 from ⟨by decide +kernel, rfl⟩) (by decide) ?_
      refine J_mask [true, false, true, true, false, true] ?_
      exact j_X12_law_146 N x0 x2 x3 x5 x4 (0 : Int32) r7.2 h0 hL111

theorem j_X12_law_79 {X : ZX} (N : Nat) (x0 : Nat) (x1 : Int32) (x2 : Nat) (x3 : Int32) (x4 : Int32)   (g : ZS) {K : ((Int32 × ZS) ⊕ (Int32 × ZS)) → Prop} (h0 : ∀ v g, K (.inr (v, g)) → xK X (some (.int v)) g) (hL79 : ∀ s, K (.inl s) → zG Y_X12_law X 0 0 79 [some (.ref x0), some (.int x1), some (.ref x2), some (.int x3), some (.int s.1), none] [] s.2) : J Y_X12_law X 0 0 79 [some (.ref x0), some (.int x1), some (.ref x2), some (.int x3), some (.int x4), none] [] g (f_X12_law_79 N x0 x1 x2 x3 x4 g) K := by
  unfold f_X12_law_79
  refine J_iload rfl (show Dc Y_X12_law 79 (.iload 4) 2 81 from ⟨by decide +kernel, rfl⟩) ?_
  refine J_iload_n rfl rfl (show Dc Y_X12_law 81 (.iload_n 1) 1 82 from ⟨by decide +kernel, rfl⟩) ?_
  refine J_icmp_ge (tg := 105) (show Dc Y_X12_law 82 (.if_icmp .ge 23) 3 85 from ⟨by decide +kernel, rfl⟩) (by decide) (fun h => ?_) (fun h => ?_)
  · refine J_map (f := Sum.inr) (fun _ h => h) ?_
    refine J_iconst (0 : Int32) rfl (show Dc Y_X12_law 105 (.iconst 0) 1 106 from ⟨by decide +kernel, rfl⟩) ?_
    refine J_istore [some (.ref x0), some (.int x1), some (.ref x2), some (.int x3), some (.int (0 : Int32)), none] (show Dc Y_X12_law 106 (.istore 4) 2 108 from ⟨by decide +kernel, rfl⟩) (by decide) rfl rfl ?_
    refine J_iconst (0 : Int32) rfl (show Dc Y_X12_law 108 (.iconst 0) 1 109 from ⟨by decide +kernel, rfl⟩) ?_
    refine J_istore [some (.ref x0), some (.int x1), some (.ref x2), some (.int x3), some (.int (0 : Int32)), some (.int (0 : Int32))] (show Dc Y_X12_law 109 (.istore 5) 2 111 from ⟨by decide +kernel, rfl⟩) (by decide) rfl rfl ?_
    refine J_mask [true, false, true, true, true, true] ?_
    exact J_loop (X := X) (K := (fun o => K (.inr o))) (uc := fun _ => 0) (us := fun _ => 0) (lf := fun s => [some (.ref x0), none, some (.ref x2), some (.int x3), some (.int s.1), some (.int s.2.1)]) (gf := fun s => s.2.2) (fun s => j_X12_law_111 (K := zKl Y_X12_law X 111 (fun _ => 0) (fun _ => 0) (fun s => [some (.ref x0), none, some (.ref x2), some (.int x3), some (.int s.1), some (.int s.2.1)]) (fun s => s.2.2) (fun o => K (.inr o))) N x0 x2 x3 s.1 s.2.1 s.2.2 h0 (fun s h => h)) N ((0 : Int32), (0 : Int32), g)
  · refine J_aload_n rfl rfl (show Dc Y_X12_law 85 (.aload_n 0) 1 86 from ⟨by decide +kernel, rfl⟩) ?_
    refine J_getR (show Dc Y_X12_law 86 (.getfield 36) 3 89 from ⟨by decide +kernel, rfl⟩) w_f_RX12_36 rfl (fun v1 => ?_)
    refine J_iload rfl (show Dc Y_X12_law 89 (.iload 4) 2 91 from ⟨by decide +kernel, rfl⟩) ?_
    refine J_aload_n rfl rfl (show Dc Y_X12_law 91 (.aload_n 0) 1 92 from ⟨by decide +kernel, rfl⟩) ?_
    refine J_getR (show Dc Y_X12_law 92 (.getfield 25) 3 95 from ⟨by decide +kernel, rfl⟩) w_f_RX12_25 rfl (fun v2 => ?_)
    refine J_iload rfl (show Dc Y_X12_law 95 (.iload 4) 2 97 from ⟨by decide +kernel, rfl⟩) ?_
    refine J_bald (show Dc Y_X12_law 97 (.baload) 1 98 from ⟨by decide +kernel, rfl⟩) (fun v3 => ?_)
    refine J_bast (show Dc Y_X12_law 98 (.bastore) 1 99 from ⟨by decide +kernel, rfl⟩) (fun g4 => ?_)
    refine J_iinc (1 : Int32) [some (.ref x0), some (.int x1), some (.ref x2), some (.int x3), some (.int (x4 + (1 : Int32))), none] (show Dc Y_X12_law 99 (.iinc 4 1) 3 102 from ⟨by decide +kernel, rfl⟩) rfl rfl (by decide) rfl rfl ?_
    refine J_goto (tg := 79) (show Dc Y_X12_law 102 (.goto (-23)) 3 105 from ⟨by decide +kernel, rfl⟩) (by decide) ?_
    exact J_leaf (fun h => hL79 (x4 + (1 : Int32), g4) h)

theorem j_X12_law_28 {X : ZX} (N : Nat) (x0 : Nat) (x1 : Int32) (x2 : Int32)   (g : ZS) {K : ((Int32 × ZS) ⊕ (Int32 × ZS)) → Prop} (h0 : ∀ v g, K (.inr (v, g)) → xK X (some (.int v)) g) (hL28 : ∀ s, K (.inl s) → zG Y_X12_law X 0 0 28 [some (.ref x0), some (.int x1), some (.int s.1), none, none, none] [] s.2) : J Y_X12_law X 0 0 28 [some (.ref x0), some (.int x1), some (.int x2), none, none, none] [] g (f_X12_law_28 N x0 x1 x2 g) K := by
  unfold f_X12_law_28
  refine J_iload_n rfl rfl (show Dc Y_X12_law 28 (.iload_n 2) 1 29 from ⟨by decide +kernel, rfl⟩) ?_
  refine J_aload_n rfl rfl (show Dc Y_X12_law 29 (.aload_n 0) 1 30 from ⟨by decide +kernel, rfl⟩) ?_
  refine J_getI (show Dc Y_X12_law 30 (.getfield 116) 3 33 from ⟨by decide +kernel, rfl⟩) w_f_RX12_116 rfl (fun v1 => ?_)
  refine J_icmp_ge (tg := 53) (show Dc Y_X12_law 33 (.if_icmp .ge 20) 3 36 from ⟨by decide +kernel, rfl⟩) (by decide) (fun h => ?_) (fun h => ?_)
  · refine J_map (f := Sum.inr) (fun _ h => h) ?_
    refine J_aload_n rfl rfl (show Dc Y_X12_law 53 (.aload_n 0) 1 54 from ⟨by decide +kernel, rfl⟩) ?_
    refine J_getR (show Dc Y_X12_law 54 (.getfield 36) 3 57 from ⟨by decide +kernel, rfl⟩) w_f_RX12_36 rfl (fun v2 => ?_)
    refine J_astore_n [some (.ref x0), some (.int x1), some (.ref v2), none, none, none] (show Dc Y_X12_law 57 (.astore_n 2) 1 58 from ⟨by decide +kernel, rfl⟩) rfl (by decide) rfl rfl ?_
    refine J_aload_n rfl rfl (show Dc Y_X12_law 58 (.aload_n 0) 1 59 from ⟨by decide +kernel, rfl⟩) ?_
    refine J_getI (show Dc Y_X12_law 59 (.getfield 218) 3 62 from ⟨by decide +kernel, rfl⟩) w_f_RX12_218 rfl (fun v3 => ?_)
    refine J_istore_n [some (.ref x0), some (.int x1), some (.ref v2), some (.int v3), none, none] (show Dc Y_X12_law 62 (.istore_n 3) 1 63 from ⟨by decide +kernel, rfl⟩) rfl (by decide) rfl rfl ?_
    refine J_aload_n rfl rfl (show Dc Y_X12_law 63 (.aload_n 0) 1 64 from ⟨by decide +kernel, rfl⟩) ?_
    refine J_aload_n rfl rfl (show Dc Y_X12_law 64 (.aload_n 0) 1 65 from ⟨by decide +kernel, rfl⟩) ?_
    refine J_getR (show Dc Y_X12_law 65 (.getfield 39) 3 68 from ⟨by decide +kernel, rfl⟩) w_f_RX12_39 rfl (fun v4 => ?_)
    refine J_putR (show Dc Y_X12_law 68 (.putfield 36) 3 71 from ⟨by decide +kernel, rfl⟩) w_f_RX12_36 rfl (Or.inr rfl) (fun g5 => ?_) (fun h => by cases h)
    refine J_aload_n rfl rfl (show Dc Y_X12_law 71 (.aload_n 0) 1 72 from ⟨by decide +kernel, rfl⟩) ?_
    refine J_iload_n rfl rfl (show Dc Y_X12_law 72 (.iload_n 1) 1 73 from ⟨by decide +kernel, rfl⟩) ?_
    refine J_putI (show Dc Y_X12_law 73 (.putfield 218) 3 76 from ⟨by decide +kernel, rfl⟩) w_f_RX12_218 rfl rfl (fun g6 => ?_) (fun h => by cases h)
    refine J_iconst (0 : Int32) rfl (show Dc Y_X12_law 76 (.iconst 0) 1 77 from ⟨by decide +kernel, rfl⟩) ?_
    refine J_istore [some (.ref x0), some (.int x1), some (.ref v2), some (.int v3), some (.int (0 : Int32)), none] (show Dc Y_X12_law 77 (.istore 4) 2 79 from ⟨by decide +kernel, rfl⟩) (by decide) rfl rfl ?_
    exact J_loop (X := X) (K := (fun o => K (.inr o))) (uc := fun _ => 0) (us := fun _ => 0) (lf := fun s => [some (.ref x0), some (.int x1), some (.ref v2), some (.int v3), some (.int s.1), none]) (gf := fun s => s.2) (fun s => j_X12_law_79 (K := zKl Y_X12_law X 79 (fun _ => 0) (fun _ => 0) (fun s => [some (.ref x0), some (.int x1), some (.ref v2), some (.int v3), some (.int s.1), none]) (fun s => s.2) (fun o => K (.inr o))) N x0 x1 v2 v3 s.1 s.2 h0 (fun s h => h)) N ((0 : Int32), g6)
  · refine J_aload_n rfl rfl (show Dc Y_X12_law 36 (.aload_n 0) 1 37 from ⟨by decide +kernel, rfl⟩) ?_
    refine J_getR (show Dc Y_X12_law 37 (.getfield 96) 3 40 from ⟨by decide +kernel, rfl⟩) w_f_RX12_96 rfl (fun v7 => ?_)
    refine J_iload_n rfl rfl (show Dc Y_X12_law 40 (.iload_n 2) 1 41 from ⟨by decide +kernel, rfl⟩) ?_
    refine J_aload_n rfl rfl (show Dc Y_X12_law 41 (.aload_n 0) 1 42 from ⟨by decide +kernel, rfl⟩) ?_
    refine J_iload_n rfl rfl (show Dc Y_X12_law 42 (.iload_n 2) 1 43 from ⟨by decide +kernel, rfl⟩) ?_
    refine J_callVi (fun r => r.1) (fun r => r.2) (show Dc Y_X12_law 43 (.invokevirtual 388) 3 46 from ⟨by decide +kernel, rfl⟩) w_m_RX12_388 w_in_X12_coded rfl w_se_X12_coded w_cw_X12_coded (c_X12_coded N x0 x2 g) rfl rfl (by decide) (Nat.le_of_ble_eq_true rfl) (by decide) (by decide) (fun r8 => ?_)
    refine J_iast (show Dc Y_X12_law 46 (.iastore) 1 47 from ⟨by decide +kernel, rfl⟩) (fun g9 => ?_)
    refine J_iinc (1 : Int32) [some (.ref x0), some (.int x1), some (.int (x2 + (1 : Int32))), none, none, none] (show Dc Y_X12_law 47 (.iinc 2 1) 3 50 from ⟨by decide +kernel, rfl⟩) rfl rfl (by decide) rfl rfl ?_
    refine J_goto (tg := 28) (show Dc Y_X12_law 50 (.goto (-22)) 3 53 from ⟨by decide +kernel, rfl⟩) (by decide) ?_
    exact J_leaf (fun h => hL28 (x2 + (1 : Int32), g9) h)

theorem j_X12_law {X : ZX} (N : Nat) (x0 : Nat)   (g : ZS) {K : (Int32 × ZS) → Prop} (h0 : ∀ v g, K (v, g) → xK X (some (.int v)) g) : J Y_X12_law X 0 0 0 [some (.ref x0), none, none, none, none, none] [] g (f_X12_law N x0 g) K := by
  unfold f_X12_law
  refine J_aload_n rfl rfl (show Dc Y_X12_law 0 (.aload_n 0) 1 1 from ⟨by decide +kernel, rfl⟩) ?_
  refine J_iconst (0 : Int32) rfl (show Dc Y_X12_law 1 (.iconst 0) 1 2 from ⟨by decide +kernel, rfl⟩) ?_
  refine J_putI (show Dc Y_X12_law 2 (.putfield 109) 3 5 from ⟨by decide +kernel, rfl⟩) w_f_RX12_109 rfl rfl (fun g1 => ?_) (fun h => by cases h)
  refine J_aload_n rfl rfl (show Dc Y_X12_law 5 (.aload_n 0) 1 6 from ⟨by decide +kernel, rfl⟩) ?_
  refine J_getI (show Dc Y_X12_law 6 (.getfield 123) 3 9 from ⟨by decide +kernel, rfl⟩) w_f_RX12_123 rfl (fun v2 => ?_)
  refine J_istore_n [some (.ref x0), some (.int v2), none, none, none, none] (show Dc Y_X12_law 9 (.istore_n 1) 1 10 from ⟨by decide +kernel, rfl⟩) rfl (by decide) rfl rfl ?_
  refine J_aload_n rfl rfl (show Dc Y_X12_law 10 (.aload_n 0) 1 11 from ⟨by decide +kernel, rfl⟩) ?_
  refine J_callVi (fun r => r.1) (fun r => r.2) (show Dc Y_X12_law 11 (.invokevirtual 215) 3 14 from ⟨by decide +kernel, rfl⟩) w_m_RX12_215 w_in_X12_readRule rfl w_se_X12_readRule w_cw_X12_readRule (c_X12_readRule N x0 g1) rfl rfl (by decide) (Nat.le_of_ble_eq_true rfl) (by decide) (by decide) (fun r3 => ?_)
  refine J_if_ne (tg := 26) (show Dc Y_X12_law 14 (.ifCond .ne 12) 3 17 from ⟨by decide +kernel, rfl⟩) (by decide) (fun h => ?_) (fun h => ?_)
  · refine J_iconst (0 : Int32) rfl (show Dc Y_X12_law 26 (.iconst 0) 1 27 from ⟨by decide +kernel, rfl⟩) ?_
    refine J_istore_n [some (.ref x0), some (.int v2), some (.int (0 : Int32)), none, none, none] (show Dc Y_X12_law 27 (.istore_n 2) 1 28 from ⟨by decide +kernel, rfl⟩) rfl (by decide) rfl rfl ?_
    exact J_loop (X := X) (K := K) (uc := fun _ => 0) (us := fun _ => 0) (lf := fun s => [some (.ref x0), some (.int v2), some (.int s.1), none, none, none]) (gf := fun s => s.2) (fun s => j_X12_law_28 (K := zKl Y_X12_law X 28 (fun _ => 0) (fun _ => 0) (fun s => [some (.ref x0), some (.int v2), some (.int s.1), none, none, none]) (fun s => s.2) K) N x0 v2 s.1 s.2 h0 (fun s h => h)) N ((0 : Int32), r3.2)
  · refine J_sipush (-10000 : Int32) rfl (show Dc Y_X12_law 17 (.sipush (-10000)) 3 20 from ⟨by decide +kernel, rfl⟩) ?_
    refine J_aload_n rfl rfl (show Dc Y_X12_law 20 (.aload_n 0) 1 21 from ⟨by decide +kernel, rfl⟩) ?_
    refine J_getI (show Dc Y_X12_law 21 (.getfield 138) 3 24 from ⟨by decide +kernel, rfl⟩) w_f_RX12_138 rfl (fun v4 => ?_)
    refine J_isub (show Dc Y_X12_law 24 (.isub) 1 25 from ⟨by decide +kernel, rfl⟩) ?_
    exact J_reti (show Dc Y_X12_law 25 (.ireturn) 1 26 from ⟨by decide +kernel, rfl⟩) rfl (h0 _ _) (by decide) (by decide)

theorem c_X12_law {l : Launch} {D : ZD} {B0 : Nat} (N : Nat) (x0 : Nat) (g : ZS) : ∀ r, f_X12_law N x0 g = some r → zCt l D B0 yX12_law Y_X12_law [.ref x0] g (some (.int r.1)) r.2 :=
  zCt_ofF (vo := fun r => some (.int r.1)) (so := fun r => r.2) (by decide +kernel) rfl (fun h => by cases h) rfl (Nat.le_of_ble_eq_true rfl) (fun X => j_X12_law N x0 g (fun _ _ h => h))

theorem j_X12_years_188 {X : ZX} (N : Nat) (x0 : Nat) (x2 : Int32) (x3 : Int32) (x4 : Int32)   (g : ZS) {K : ((Int32 × Int32 × ZS) ⊕ (Int32 × ZS)) → Prop} (h0 : ∀ v g, K (.inr (v, g)) → xK X (some (.int v)) g) (hL39 : ∀ s, K (.inl s) → zG Y_X12_years X 0 0 39 [some (.ref x0), none, some (.int x2), some (.int s.1), some (.int s.2.1), none, none, none] [] s.2.2) : J Y_X12_years X 0 0 188 [some (.ref x0), none, some (.int x2), some (.int x3), some (.int x4), none, none, none] [] g (f_X12_years_188 N x0 x2 x3 x4 g) K := by
  unfold f_X12_years_188
  refine J_iinc (1 : Int32) [some (.ref x0), none, some (.int x2), some (.int x3), some (.int (x4 + (1 : Int32))), none, none, none] (show Dc Y_X12_years 188 (.iinc 4 1) 3 191 from ⟨by decide +kernel, rfl⟩) rfl rfl (by decide) rfl rfl ?_
  refine J_goto (tg := 39) (show Dc Y_X12_years 191 (.goto (-152)) 3 194 from ⟨by decide +kernel, rfl⟩) (by decide) ?_
  exact J_leaf (fun h => hL39 (x3, x4 + (1 : Int32), g) h)

theorem j_X12_years_148 {X : ZX} (N : Nat) (x0 : Nat) (x2 : Int32) (x3 : Int32) (x4 : Int32) (x5 : Int32) (x6 : Int32)   (g : ZS) {K : ((Int32 × Int32 × ZS) ⊕ (Int32 × ZS)) → Prop} (h0 : ∀ v g, K (.inr (v, g)) → xK X (some (.int v)) g) (hL39 : ∀ s, K (.inl s) → zG Y_X12_years X 0 0 39 [some (.ref x0), none, some (.int x2), some (.int s.1), some (.int s.2.1), none, none, none] [] s.2.2) : J Y_X12_years X 0 0 148 [some (.ref x0), none, some (.int x2), some (.int x3), some (.int x4), some (.int x5), some (.int x6), none] [] g (f_X12_years_148 N x0 x2 x3 x4 x5 x6 g) K := by
  unfold f_X12_years_148
  refine J_iload rfl (show Dc Y_X12_years 148 (.iload 5) 2 150 from ⟨by decide +kernel, rfl⟩) ?_
  refine J_iconst (4 : Int32) rfl (show Dc Y_X12_years 150 (.iconst 4) 1 151 from ⟨by decide +kernel, rfl⟩) ?_
  refine J_icmp_ne (tg := 188) (show Dc Y_X12_years 151 (.if_icmp .ne 37) 3 154 from ⟨by decide +kernel, rfl⟩) (by decide) (fun h => ?_) (fun h => ?_)
  · refine J_mask [true, false, true, true, true, false, false, false] ?_
    exact j_X12_years_188 N x0 x2 x3 x4 g h0 hL39
  · refine J_aload_n rfl rfl (show Dc Y_X12_years 154 (.aload_n 0) 1 155 from ⟨by decide +kernel, rfl⟩) ?_
    refine J_bipush (8 : Int32) rfl (show Dc Y_X12_years 155 (.bipush 8) 2 157 from ⟨by decide +kernel, rfl⟩) ?_
    refine J_callVi (fun r => r.1) (fun r => r.2) (show Dc Y_X12_years 157 (.invokevirtual 395) 3 160 from ⟨by decide +kernel, rfl⟩) w_m_RX12_395 w_in_X12_draw rfl w_se_X12_draw w_cw_X12_draw (c_X12_draw x0 (8 : Int32) g) rfl rfl (by decide) (Nat.le_of_ble_eq_true rfl) (by decide) (by decide) (fun r1 => ?_)
    refine J_istore [some (.ref x0), none, some (.int x2), some (.int x3), some (.int x4), some (.int x5), some (.int x6), some (.int r1.1)] (show Dc Y_X12_years 160 (.istore 7) 2 162 from ⟨by decide +kernel, rfl⟩) (by decide) rfl rfl ?_
    refine J_aload_n rfl rfl (show Dc Y_X12_years 162 (.aload_n 0) 1 163 from ⟨by decide +kernel, rfl⟩) ?_
    refine J_getR (show Dc Y_X12_years 163 (.getfield 60) 3 166 from ⟨by decide +kernel, rfl⟩) w_f_RX12_60 rfl (fun v2 => ?_)
    refine J_iload rfl (show Dc Y_X12_years 166 (.iload 6) 2 168 from ⟨by decide +kernel, rfl⟩) ?_
    refine J_iload rfl (show Dc Y_X12_years 168 (.iload 7) 2 170 from ⟨by decide +kernel, rfl⟩) ?_
    refine J_callSi (fun r => r) (fun _ => r1.2) (show Dc Y_X12_years 170 (.invokestatic 221) 3 173 from ⟨by decide +kernel, rfl⟩) w_m_RX12_221 w_st_X12_hasHeard w_cw_X12_hasHeard (c_X12_hasHeard v2 x6 r1.1 r1.2) rfl rfl (by decide) (Nat.le_of_ble_eq_true rfl) (by decide) (by decide) (fun v3 => ?_)
    refine J_if_eq (tg := 188) (show Dc Y_X12_years 173 (.ifCond .eq 15) 3 176 from ⟨by decide +kernel, rfl⟩) (by decide) (fun h => ?_) (fun h => ?_)
    · refine J_mask [true, false, true, true, true, false, false, false] ?_
      exact j_X12_years_188 N x0 x2 x3 x4 r1.2 h0 hL39
    · refine J_aload_n rfl rfl (show Dc Y_X12_years 176 (.aload_n 0) 1 177 from ⟨by decide +kernel, rfl⟩) ?_
      refine J_getR (show Dc Y_X12_years 177 (.getfield 60) 3 180 from ⟨by decide +kernel, rfl⟩) w_f_RX12_60 rfl (fun v4 => ?_)
      refine J_iload rfl (show Dc Y_X12_years 180 (.iload 6) 2 182 from ⟨by decide +kernel, rfl⟩) ?_
      refine J_iload rfl (show Dc Y_X12_years 182 (.iload 7) 2 184 from ⟨by decide +kernel, rfl⟩) ?_
      refine J_iconst (1 : Int32) rfl (show Dc Y_X12_years 184 (.iconst 1) 1 185 from ⟨by decide +kernel, rfl⟩) ?_
      refine J_callSv (fun r => r) (show Dc Y_X12_years 185 (.invokestatic 287) 3 188 from ⟨by decide +kernel, rfl⟩) w_m_RX12_287 w_st_X12_goTeach w_cw_X12_goTeach (c_X12_goTeach v4 x6 r1.1 (1 : Int32) r1.2) rfl rfl (by decide) (Nat.le_of_ble_eq_true rfl) (by decide) (by decide) (fun g5 => ?_)
      refine J_mask [true, false, true, true, true, false, false, false] ?_
      exact j_X12_years_188 N x0 x2 x3 x4 g5 h0 hL39

theorem j_X12_years_126 {X : ZX} (N : Nat) (x0 : Nat) (x2 : Int32) (x3 : Int32) (x4 : Int32) (x5 : Int32) (x6 : Int32)   (g : ZS) {K : ((Int32 × Int32 × ZS) ⊕ (Int32 × ZS)) → Prop} (h0 : ∀ v g, K (.inr (v, g)) → xK X (some (.int v)) g) (hL39 : ∀ s, K (.inl s) → zG Y_X12_years X 0 0 39 [some (.ref x0), none, some (.int x2), some (.int s.1), some (.int s.2.1), none, none, none] [] s.2.2) : J Y_X12_years X 0 0 126 [some (.ref x0), none, some (.int x2), some (.int x3), some (.int x4), some (.int x5), some (.int x6), none] [] g (f_X12_years_126 N x0 x2 x3 x4 x5 x6 g) K := by
  unfold f_X12_years_126
  refine J_iload rfl (show Dc Y_X12_years 126 (.iload 5) 2 128 from ⟨by decide +kernel, rfl⟩) ?_
  refine J_iconst (3 : Int32) rfl (show Dc Y_X12_years 128 (.iconst 3) 1 129 from ⟨by decide +kernel, rfl⟩) ?_
  refine J_icmp_ne (tg := 148) (show Dc Y_X12_years 129 (.if_icmp .ne 19) 3 132 from ⟨by decide +kernel, rfl⟩) (by decide) (fun h => ?_) (fun h => ?_)
  · exact j_X12_years_148 N x0 x2 x3 x4 x5 x6 g h0 hL39
  · refine J_aload_n rfl rfl (show Dc Y_X12_years 132 (.aload_n 0) 1 133 from ⟨by decide +kernel, rfl⟩) ?_
    refine J_getR (show Dc Y_X12_years 133 (.getfield 60) 3 136 from ⟨by decide +kernel, rfl⟩) w_f_RX12_60 rfl (fun v1 => ?_)
    refine J_iload rfl (show Dc Y_X12_years 136 (.iload 6) 2 138 from ⟨by decide +kernel, rfl⟩) ?_
    refine J_iconst (0 : Int32) rfl (show Dc Y_X12_years 138 (.iconst 0) 1 139 from ⟨by decide +kernel, rfl⟩) ?_
    refine J_callSi (fun r => r) (fun _ => g) (show Dc Y_X12_years 139 (.invokestatic 179) 3 142 from ⟨by decide +kernel, rfl⟩) w_m_RX12_179 w_st_X12_of w_cw_X12_of (c_X12_of x6 (0 : Int32) g) rfl rfl (by decide) (Nat.le_of_ble_eq_true rfl) (by decide) (by decide) (fun v2 => ?_)
    refine J_aload_n rfl rfl (show Dc Y_X12_years 142 (.aload_n 0) 1 143 from ⟨by decide +kernel, rfl⟩) ?_
    refine J_iconst (4 : Int32) rfl (show Dc Y_X12_years 143 (.iconst 4) 1 144 from ⟨by decide +kernel, rfl⟩) ?_
    refine J_callVi (fun r => r.1) (fun r => r.2) (show Dc Y_X12_years 144 (.invokevirtual 395) 3 147 from ⟨by decide +kernel, rfl⟩) w_m_RX12_395 w_in_X12_draw rfl w_se_X12_draw w_cw_X12_draw (c_X12_draw x0 (4 : Int32) g) rfl rfl (by decide) (Nat.le_of_ble_eq_true rfl) (by decide) (by decide) (fun r3 => ?_)
    refine J_iast (show Dc Y_X12_years 147 (.iastore) 1 148 from ⟨by decide +kernel, rfl⟩) (fun g4 => ?_)
    exact j_X12_years_148 N x0 x2 x3 x4 x5 x6 g4 h0 hL39

theorem j_X12_years_67 {X : ZX} (N : Nat) (x0 : Nat) (x2 : Int32) (x3 : Int32) (x4 : Int32) (x5 : Int32)   (g : ZS) {K : ((Int32 × Int32 × ZS) ⊕ (Int32 × ZS)) → Prop} (h0 : ∀ v g, K (.inr (v, g)) → xK X (some (.int v)) g) (hL39 : ∀ s, K (.inl s) → zG Y_X12_years X 0 0 39 [some (.ref x0), none, some (.int x2), some (.int s.1), some (.int s.2.1), none, none, none] [] s.2.2) : J Y_X12_years X 0 0 67 [some (.ref x0), none, some (.int x2), some (.int x3), some (.int x4), some (.int x5), none, none] [] g (f_X12_years_67 N x0 x2 x3 x4 x5 g) K := by
  unfold f_X12_years_67
  refine J_iload rfl (show Dc Y_X12_years 67 (.iload 5) 2 69 from ⟨by decide +kernel, rfl⟩) ?_
  refine J_iconst (2 : Int32) rfl (show Dc Y_X12_years 69 (.iconst 2) 1 70 from ⟨by decide +kernel, rfl⟩) ?_
  refine J_icmp_lt (tg := 188) (show Dc Y_X12_years 70 (.if_icmp .lt 118) 3 73 from ⟨by decide +kernel, rfl⟩) (by decide) (fun h => ?_) (fun h => ?_)
  · refine J_mask [true, false, true, true, true, false, false, false] ?_
    exact j_X12_years_188 N x0 x2 x3 x4 g h0 hL39
  · refine J_aload_n rfl rfl (show Dc Y_X12_years 73 (.aload_n 0) 1 74 from ⟨by decide +kernel, rfl⟩) ?_
    refine J_getI (show Dc Y_X12_years 74 (.getfield 116) 3 77 from ⟨by decide +kernel, rfl⟩) w_f_RX12_116 rfl (fun v1 => ?_)
    refine J_if_ne (tg := 83) (show Dc Y_X12_years 77 (.ifCond .ne 6) 3 80 from ⟨by decide +kernel, rfl⟩) (by decide) (fun h => ?_) (fun h => ?_)
    · refine J_aload_n rfl rfl (show Dc Y_X12_years 83 (.aload_n 0) 1 84 from ⟨by decide +kernel, rfl⟩) ?_
      refine J_aload_n rfl rfl (show Dc Y_X12_years 84 (.aload_n 0) 1 85 from ⟨by decide +kernel, rfl⟩) ?_
      refine J_getI (show Dc Y_X12_years 85 (.getfield 116) 3 88 from ⟨by decide +kernel, rfl⟩) w_f_RX12_116 rfl (fun v2 => ?_)
      refine J_callVi (fun r => r.1) (fun r => r.2) (show Dc Y_X12_years 88 (.invokevirtual 395) 3 91 from ⟨by decide +kernel, rfl⟩) w_m_RX12_395 w_in_X12_draw rfl w_se_X12_draw w_cw_X12_draw (c_X12_draw x0 v2 g) rfl rfl (by decide) (Nat.le_of_ble_eq_true rfl) (by decide) (by decide) (fun r3 => ?_)
      refine J_istore [some (.ref x0), none, some (.int x2), some (.int x3), some (.int x4), some (.int x5), some (.int r3.1), none] (show Dc Y_X12_years 91 (.istore 6) 2 93 from ⟨by decide +kernel, rfl⟩) (by decide) rfl rfl ?_
      refine J_iload rfl (show Dc Y_X12_years 93 (.iload 5) 2 95 from ⟨by decide +kernel, rfl⟩) ?_
      refine J_iconst (2 : Int32) rfl (show Dc Y_X12_years 95 (.iconst 2) 1 96 from ⟨by decide +kernel, rfl⟩) ?_
      refine J_icmp_ne (tg := 126) (show Dc Y_X12_years 96 (.if_icmp .ne 30) 3 99 from ⟨by decide +kernel, rfl⟩) (by decide) (fun h => ?_) (fun h => ?_)
      · exact j_X12_years_126 N x0 x2 x3 x4 x5 r3.1 r3.2 h0 hL39
      · refine J_aload_n rfl rfl (show Dc Y_X12_years 99 (.aload_n 0) 1 100 from ⟨by decide +kernel, rfl⟩) ?_
        refine J_aload_n rfl rfl (show Dc Y_X12_years 100 (.aload_n 0) 1 101 from ⟨by decide +kernel, rfl⟩) ?_
        refine J_getR (show Dc Y_X12_years 101 (.getfield 60) 3 104 from ⟨by decide +kernel, rfl⟩) w_f_RX12_60 rfl (fun v4 => ?_)
        refine J_iload rfl (show Dc Y_X12_years 104 (.iload 6) 2 106 from ⟨by decide +kernel, rfl⟩) ?_
        refine J_callVi (fun r => r.1) (fun r => r.2) (show Dc Y_X12_years 106 (.invokevirtual 295) 3 109 from ⟨by decide +kernel, rfl⟩) w_m_RX12_295 w_in_X12_refusesSpeak rfl w_se_X12_refusesSpeak w_cw_X12_refusesSpeak (c_X12_refusesSpeak N x0 v4 r3.1 r3.2) rfl rfl (by decide) (Nat.le_of_ble_eq_true rfl) (by decide) (by decide) (fun r5 => ?_)
        refine J_if_ne (tg := 126) (show Dc Y_X12_years 109 (.ifCond .ne 17) 3 112 from ⟨by decide +kernel, rfl⟩) (by decide) (fun h => ?_) (fun h => ?_)
        · exact j_X12_years_126 N x0 x2 x3 x4 x5 r3.1 r5.2 h0 hL39
        · refine J_aload_n rfl rfl (show Dc Y_X12_years 112 (.aload_n 0) 1 113 from ⟨by decide +kernel, rfl⟩) ?_
          refine J_aload_n rfl rfl (show Dc Y_X12_years 113 (.aload_n 0) 1 114 from ⟨by decide +kernel, rfl⟩) ?_
          refine J_getR (show Dc Y_X12_years 114 (.getfield 60) 3 117 from ⟨by decide +kernel, rfl⟩) w_f_RX12_60 rfl (fun v6 => ?_)
          refine J_iload rfl (show Dc Y_X12_years 117 (.iload 6) 2 119 from ⟨by decide +kernel, rfl⟩) ?_
          refine J_callVi (fun r => r.1) (fun r => r.2) (show Dc Y_X12_years 119 (.invokevirtual 298) 3 122 from ⟨by decide +kernel, rfl⟩) w_m_RX12_298 w_in_X12_goSpeak rfl w_se_X12_goSpeak w_cw_X12_goSpeak (c_X12_goSpeak N x0 v6 r3.1 r5.2) rfl rfl (by decide) (Nat.le_of_ble_eq_true rfl) (by decide) (by decide) (fun r7 => ?_)
          refine J_pop rfl (show Dc Y_X12_years 122 (.pop) 1 123 from ⟨by decide +kernel, rfl⟩) ?_
          refine J_iinc (1 : Int32) [some (.ref x0), none, some (.int x2), some (.int (x3 + (1 : Int32))), some (.int x4), some (.int x5), some (.int r3.1), none] (show Dc Y_X12_years 123 (.iinc 3 1) 3 126 from ⟨by decide +kernel, rfl⟩) rfl rfl (by decide) rfl rfl ?_
          exact j_X12_years_126 N x0 x2 (x3 + (1 : Int32)) x4 x5 r3.1 r7.2 h0 hL39
    · refine J_goto (tg := 188) (show Dc Y_X12_years 80 (.goto 108) 3 83 from ⟨by decide +kernel, rfl⟩) (by decide) ?_
      refine J_mask [true, false, true, true, true, false, false, false] ?_
      exact j_X12_years_188 N x0 x2 x3 x4 g h0 hL39

theorem j_X12_years_203 {X : ZX} (N : Nat) (x0 : Nat) (x3 : Int32) (x4 : Int32) (x5 : Int32) (x6 : Int32)   (g : ZS) {K : ((Int32 × Int32 × Int32) ⊕ (Int32 × ZS)) → Prop} (h0 : ∀ v g, K (.inr (v, g)) → xK X (some (.int v)) g) (hL203 : ∀ s, K (.inl s) → zG Y_X12_years X 0 0 203 [some (.ref x0), none, none, some (.int x3), some (.int s.1), some (.int s.2.1), some (.int s.2.2), none] [] g) : J Y_X12_years X 0 0 203 [some (.ref x0), none, none, some (.int x3), some (.int x4), some (.int x5), some (.int x6), none] [] g (f_X12_years_203 N x0 x3 x4 x5 x6 g) K := by
  unfold f_X12_years_203
  refine J_iload rfl (show Dc Y_X12_years 203 (.iload 6) 2 205 from ⟨by decide +kernel, rfl⟩) ?_
  refine J_aload_n rfl rfl (show Dc Y_X12_years 205 (.aload_n 0) 1 206 from ⟨by decide +kernel, rfl⟩) ?_
  refine J_getI (show Dc Y_X12_years 206 (.getfield 116) 3 209 from ⟨by decide +kernel, rfl⟩) w_f_RX12_116 rfl (fun v1 => ?_)
  refine J_icmp_ge (tg := 248) (show Dc Y_X12_years 209 (.if_icmp .ge 39) 3 212 from ⟨by decide +kernel, rfl⟩) (by decide) (fun h => ?_) (fun h => ?_)
  · refine J_map (f := Sum.inr) (fun _ h => h) ?_
    refine J_aload_n rfl rfl (show Dc Y_X12_years 248 (.aload_n 0) 1 249 from ⟨by decide +kernel, rfl⟩) ?_
    refine J_iconst (0 : Int32) rfl (show Dc Y_X12_years 249 (.iconst 0) 1 250 from ⟨by decide +kernel, rfl⟩) ?_
    refine J_putI (show Dc Y_X12_years 250 (.putfield 113) 3 253 from ⟨by decide +kernel, rfl⟩) w_f_RX12_113 rfl rfl (fun g2 => ?_) (fun h => by cases h)
    refine J_aload_n rfl rfl (show Dc Y_X12_years 253 (.aload_n 0) 1 254 from ⟨by decide +kernel, rfl⟩) ?_
    refine J_iload rfl (show Dc Y_X12_years 254 (.iload 4) 2 256 from ⟨by decide +kernel, rfl⟩) ?_
    refine J_i2l (show Dc Y_X12_years 256 (.i2l) 1 257 from ⟨by decide +kernel, rfl⟩) ?_
    refine J_callVv (fun r => r) (show Dc Y_X12_years 257 (.invokevirtual 274) 3 260 from ⟨by decide +kernel, rfl⟩) w_m_RX12_274 w_in_X12_tell rfl w_se_X12_tell w_cw_X12_tell (c_X12_tell x0 x4.toInt64 g2) rfl rfl (by decide) (Nat.le_of_ble_eq_true rfl) (by decide) (by decide) (fun g3 => ?_)
    refine J_aload_n rfl rfl (show Dc Y_X12_years 260 (.aload_n 0) 1 261 from ⟨by decide +kernel, rfl⟩) ?_
    refine J_iload rfl (show Dc Y_X12_years 261 (.iload 5) 2 263 from ⟨by decide +kernel, rfl⟩) ?_
    refine J_i2l (show Dc Y_X12_years 263 (.i2l) 1 264 from ⟨by decide +kernel, rfl⟩) ?_
    refine J_callVv (fun r => r) (show Dc Y_X12_years 264 (.invokevirtual 274) 3 267 from ⟨by decide +kernel, rfl⟩) w_m_RX12_274 w_in_X12_tell rfl w_se_X12_tell w_cw_X12_tell (c_X12_tell x0 x5.toInt64 g3) rfl rfl (by decide) (Nat.le_of_ble_eq_true rfl) (by decide) (by decide) (fun g4 => ?_)
    refine J_iload_n rfl rfl (show Dc Y_X12_years 267 (.iload_n 3) 1 268 from ⟨by decide +kernel, rfl⟩) ?_
    exact J_reti (show Dc Y_X12_years 268 (.ireturn) 1 269 from ⟨by decide +kernel, rfl⟩) rfl (h0 _ _) (by decide) (by decide)
  · refine J_iload rfl (show Dc Y_X12_years 212 (.iload 4) 2 214 from ⟨by decide +kernel, rfl⟩) ?_
    refine J_aload_n rfl rfl (show Dc Y_X12_years 214 (.aload_n 0) 1 215 from ⟨by decide +kernel, rfl⟩) ?_
    refine J_getR (show Dc Y_X12_years 215 (.getfield 60) 3 218 from ⟨by decide +kernel, rfl⟩) w_f_RX12_60 rfl (fun v5 => ?_)
    refine J_iload rfl (show Dc Y_X12_years 218 (.iload 6) 2 220 from ⟨by decide +kernel, rfl⟩) ?_
    refine J_iconst (2 : Int32) rfl (show Dc Y_X12_years 220 (.iconst 2) 1 221 from ⟨by decide +kernel, rfl⟩) ?_
    refine J_callSi (fun r => r) (fun _ => g) (show Dc Y_X12_years 221 (.invokestatic 179) 3 224 from ⟨by decide +kernel, rfl⟩) w_m_RX12_179 w_st_X12_of w_cw_X12_of (c_X12_of x6 (2 : Int32) g) rfl rfl (by decide) (Nat.le_of_ble_eq_true rfl) (by decide) (by decide) (fun v6 => ?_)
    refine J_iald (show Dc Y_X12_years 224 (.iaload) 1 225 from ⟨by decide +kernel, rfl⟩) (fun v7 => ?_)
    refine J_iadd (show Dc Y_X12_years 225 (.iadd) 1 226 from ⟨by decide +kernel, rfl⟩) ?_
    refine J_istore [some (.ref x0), none, none, some (.int x3), some (.int (x4 + v7)), some (.int x5), some (.int x6), none] (show Dc Y_X12_years 226 (.istore 4) 2 228 from ⟨by decide +kernel, rfl⟩) (by decide) rfl rfl ?_
    refine J_iload rfl (show Dc Y_X12_years 228 (.iload 5) 2 230 from ⟨by decide +kernel, rfl⟩) ?_
    refine J_aload_n rfl rfl (show Dc Y_X12_years 230 (.aload_n 0) 1 231 from ⟨by decide +kernel, rfl⟩) ?_
    refine J_getR (show Dc Y_X12_years 231 (.getfield 60) 3 234 from ⟨by decide +kernel, rfl⟩) w_f_RX12_60 rfl (fun v8 => ?_)
    refine J_iload rfl (show Dc Y_X12_years 234 (.iload 6) 2 236 from ⟨by decide +kernel, rfl⟩) ?_
    refine J_callSi (fun r => r) (fun _ => g) (show Dc Y_X12_years 236 (.invokestatic 240) 3 239 from ⟨by decide +kernel, rfl⟩) w_m_RX12_240 w_st_X12_heardBits w_cw_X12_heardBits (c_X12_heardBits N v8 x6 g) rfl rfl (by decide) (Nat.le_of_ble_eq_true rfl) (by decide) (by decide) (fun v9 => ?_)
    refine J_ior (show Dc Y_X12_years 239 (.ior) 1 240 from ⟨by decide +kernel, rfl⟩) ?_
    refine J_istore [some (.ref x0), none, none, some (.int x3), some (.int (x4 + v7)), some (.int (x5 ||| v9)), some (.int x6), none] (show Dc Y_X12_years 240 (.istore 5) 2 242 from ⟨by decide +kernel, rfl⟩) (by decide) rfl rfl ?_
    refine J_iinc (1 : Int32) [some (.ref x0), none, none, some (.int x3), some (.int (x4 + v7)), some (.int (x5 ||| v9)), some (.int (x6 + (1 : Int32))), none] (show Dc Y_X12_years 242 (.iinc 6 1) 3 245 from ⟨by decide +kernel, rfl⟩) rfl rfl (by decide) rfl rfl ?_
    refine J_goto (tg := 203) (show Dc Y_X12_years 245 (.goto (-42)) 3 248 from ⟨by decide +kernel, rfl⟩) (by decide) ?_
    exact J_leaf (fun h => hL203 (x4 + v7, x5 ||| v9, x6 + (1 : Int32)) h)

theorem j_X12_years_39 {X : ZX} (N : Nat) (x0 : Nat) (x2 : Int32) (x3 : Int32) (x4 : Int32)   (g : ZS) {K : ((Int32 × Int32 × ZS) ⊕ (Int32 × ZS)) → Prop} (h0 : ∀ v g, K (.inr (v, g)) → xK X (some (.int v)) g) (hL39 : ∀ s, K (.inl s) → zG Y_X12_years X 0 0 39 [some (.ref x0), none, some (.int x2), some (.int s.1), some (.int s.2.1), none, none, none] [] s.2.2) : J Y_X12_years X 0 0 39 [some (.ref x0), none, some (.int x2), some (.int x3), some (.int x4), none, none, none] [] g (f_X12_years_39 N x0 x2 x3 x4 g) K := by
  unfold f_X12_years_39
  refine J_iload rfl (show Dc Y_X12_years 39 (.iload 4) 2 41 from ⟨by decide +kernel, rfl⟩) ?_
  refine J_iload_n rfl rfl (show Dc Y_X12_years 41 (.iload_n 2) 1 42 from ⟨by decide +kernel, rfl⟩) ?_
  refine J_icmp_ge (tg := 194) (show Dc Y_X12_years 42 (.if_icmp .ge 152) 3 45 from ⟨by decide +kernel, rfl⟩) (by decide) (fun h => ?_) (fun h => ?_)
  · refine J_map (f := Sum.inr) (fun _ h => h) ?_
    refine J_iconst (0 : Int32) rfl (show Dc Y_X12_years 194 (.iconst 0) 1 195 from ⟨by decide +kernel, rfl⟩) ?_
    refine J_istore [some (.ref x0), none, some (.int x2), some (.int x3), some (.int (0 : Int32)), none, none, none] (show Dc Y_X12_years 195 (.istore 4) 2 197 from ⟨by decide +kernel, rfl⟩) (by decide) rfl rfl ?_
    refine J_iconst (0 : Int32) rfl (show Dc Y_X12_years 197 (.iconst 0) 1 198 from ⟨by decide +kernel, rfl⟩) ?_
    refine J_istore [some (.ref x0), none, some (.int x2), some (.int x3), some (.int (0 : Int32)), some (.int (0 : Int32)), none, none] (show Dc Y_X12_years 198 (.istore 5) 2 200 from ⟨by decide +kernel, rfl⟩) (by decide) rfl rfl ?_
    refine J_iconst (0 : Int32) rfl (show Dc Y_X12_years 200 (.iconst 0) 1 201 from ⟨by decide +kernel, rfl⟩) ?_
    refine J_istore [some (.ref x0), none, some (.int x2), some (.int x3), some (.int (0 : Int32)), some (.int (0 : Int32)), some (.int (0 : Int32)), none] (show Dc Y_X12_years 201 (.istore 6) 2 203 from ⟨by decide +kernel, rfl⟩) (by decide) rfl rfl ?_
    refine J_mask [true, false, false, true, true, true, true, false] ?_
    exact J_loop (X := X) (K := (fun o => K (.inr o))) (uc := fun _ => 0) (us := fun _ => 0) (lf := fun s => [some (.ref x0), none, none, some (.int x3), some (.int s.1), some (.int s.2.1), some (.int s.2.2), none]) (gf := fun s => g) (fun s => j_X12_years_203 (K := zKl Y_X12_years X 203 (fun _ => 0) (fun _ => 0) (fun s => [some (.ref x0), none, none, some (.int x3), some (.int s.1), some (.int s.2.1), some (.int s.2.2), none]) (fun s => g) (fun o => K (.inr o))) N x0 x3 s.1 s.2.1 s.2.2 g h0 (fun s h => h)) N ((0 : Int32), (0 : Int32), (0 : Int32))
  · refine J_aload_n rfl rfl (show Dc Y_X12_years 45 (.aload_n 0) 1 46 from ⟨by decide +kernel, rfl⟩) ?_
    refine J_iconst (5 : Int32) rfl (show Dc Y_X12_years 46 (.iconst 5) 1 47 from ⟨by decide +kernel, rfl⟩) ?_
    refine J_callVi (fun r => r.1) (fun r => r.2) (show Dc Y_X12_years 47 (.invokevirtual 395) 3 50 from ⟨by decide +kernel, rfl⟩) w_m_RX12_395 w_in_X12_draw rfl w_se_X12_draw w_cw_X12_draw (c_X12_draw x0 (5 : Int32) g) rfl rfl (by decide) (Nat.le_of_ble_eq_true rfl) (by decide) (by decide) (fun r1 => ?_)
    refine J_istore [some (.ref x0), none, some (.int x2), some (.int x3), some (.int x4), some (.int r1.1), none, none] (show Dc Y_X12_years 50 (.istore 5) 2 52 from ⟨by decide +kernel, rfl⟩) (by decide) rfl rfl ?_
    refine J_iload rfl (show Dc Y_X12_years 52 (.iload 5) 2 54 from ⟨by decide +kernel, rfl⟩) ?_
    refine J_iconst (2 : Int32) rfl (show Dc Y_X12_years 54 (.iconst 2) 1 55 from ⟨by decide +kernel, rfl⟩) ?_
    refine J_icmp_ge (tg := 67) (show Dc Y_X12_years 55 (.if_icmp .ge 12) 3 58 from ⟨by decide +kernel, rfl⟩) (by decide) (fun h => ?_) (fun h => ?_)
    · exact j_X12_years_67 N x0 x2 x3 x4 r1.1 r1.2 h0 hL39
    · refine J_aload_n rfl rfl (show Dc Y_X12_years 58 (.aload_n 0) 1 59 from ⟨by decide +kernel, rfl⟩) ?_
      refine J_aload_n rfl rfl (show Dc Y_X12_years 59 (.aload_n 0) 1 60 from ⟨by decide +kernel, rfl⟩) ?_
      refine J_getR (show Dc Y_X12_years 60 (.getfield 60) 3 63 from ⟨by decide +kernel, rfl⟩) w_f_RX12_60 rfl (fun v2 => ?_)
      refine J_iconst (1 : Int32) rfl (show Dc Y_X12_years 63 (.iconst 1) 1 64 from ⟨by decide +kernel, rfl⟩) ?_
      refine J_callVv (fun r => r) (show Dc Y_X12_years 64 (.invokevirtual 265) 3 67 from ⟨by decide +kernel, rfl⟩) w_m_RX12_265 w_in_X12_goDays rfl w_se_X12_goDays w_cw_X12_goDays (c_X12_goDays N x0 v2 (1 : Int32) r1.2) rfl rfl (by decide) (Nat.le_of_ble_eq_true rfl) (by decide) (by decide) (fun g3 => ?_)
      exact j_X12_years_67 N x0 x2 x3 x4 r1.1 g3 h0 hL39

theorem j_X12_years {X : ZX} (N : Nat) (x0 : Nat) (x1 : Int32) (x2 : Int32)   (g : ZS) {K : (Int32 × ZS) → Prop} (h0 : ∀ v g, K (v, g) → xK X (some (.int v)) g) : J Y_X12_years X 0 0 0 [some (.ref x0), some (.int x1), some (.int x2), none, none, none, none, none] [] g (f_X12_years N x0 x1 x2 g) K := by
  unfold f_X12_years
  refine J_aload_n rfl rfl (show Dc Y_X12_years 0 (.aload_n 0) 1 1 from ⟨by decide +kernel, rfl⟩) ?_
  refine J_iconst (0 : Int32) rfl (show Dc Y_X12_years 1 (.iconst 0) 1 2 from ⟨by decide +kernel, rfl⟩) ?_
  refine J_putI (show Dc Y_X12_years 2 (.putfield 109) 3 5 from ⟨by decide +kernel, rfl⟩) w_f_RX12_109 rfl rfl (fun g1 => ?_) (fun h => by cases h)
  refine J_iload_n rfl rfl (show Dc Y_X12_years 5 (.iload_n 2) 1 6 from ⟨by decide +kernel, rfl⟩) ?_
  refine J_iconst (1 : Int32) rfl (show Dc Y_X12_years 6 (.iconst 1) 1 7 from ⟨by decide +kernel, rfl⟩) ?_
  refine J_bipush (60 : Int32) rfl (show Dc Y_X12_years 7 (.bipush 60) 2 9 from ⟨by decide +kernel, rfl⟩) ?_
  refine J_callSi (fun r => r) (fun _ => g1) (show Dc Y_X12_years 9 (.invokestatic 119) 3 12 from ⟨by decide +kernel, rfl⟩) w_m_RX12_119 w_st_X12_in w_cw_X12_in (c_X12_in x2 (1 : Int32) (60 : Int32) g1) rfl rfl (by decide) (Nat.le_of_ble_eq_true rfl) (by decide) (by decide) (fun v2 => ?_)
  refine J_if_ne (tg := 17) (show Dc Y_X12_years 12 (.ifCond .ne 5) 3 15 from ⟨by decide +kernel, rfl⟩) (by decide) (fun h => ?_) (fun h => ?_)
  · refine J_aload_n rfl rfl (show Dc Y_X12_years 17 (.aload_n 0) 1 18 from ⟨by decide +kernel, rfl⟩) ?_
    refine J_iload_n rfl rfl (show Dc Y_X12_years 18 (.iload_n 1) 1 19 from ⟨by decide +kernel, rfl⟩) ?_
    refine J_putI (show Dc Y_X12_years 19 (.putfield 391) 3 22 from ⟨by decide +kernel, rfl⟩) w_f_RX12_391 rfl rfl (fun g3 => ?_) (fun h => by cases h)
    refine J_iconst (0 : Int32) rfl (show Dc Y_X12_years 22 (.iconst 0) 1 23 from ⟨by decide +kernel, rfl⟩) ?_
    refine J_istore_n [some (.ref x0), some (.int x1), some (.int x2), some (.int (0 : Int32)), none, none, none, none] (show Dc Y_X12_years 23 (.istore_n 3) 1 24 from ⟨by decide +kernel, rfl⟩) rfl (by decide) rfl rfl ?_
    refine J_aload_n rfl rfl (show Dc Y_X12_years 24 (.aload_n 0) 1 25 from ⟨by decide +kernel, rfl⟩) ?_
    refine J_getR (show Dc Y_X12_years 25 (.getfield 9) 3 28 from ⟨by decide +kernel, rfl⟩) w_f_RX12_9 rfl (fun v4 => ?_)
    refine J_aload_n rfl rfl (show Dc Y_X12_years 28 (.aload_n 0) 1 29 from ⟨by decide +kernel, rfl⟩) ?_
    refine J_getR (show Dc Y_X12_years 29 (.getfield 60) 3 32 from ⟨by decide +kernel, rfl⟩) w_f_RX12_60 rfl (fun v5 => ?_)
    refine J_iconst (0 : Int32) rfl (show Dc Y_X12_years 32 (.iconst 0) 1 33 from ⟨by decide +kernel, rfl⟩) ?_
    refine J_callSv (fun r => r) (show Dc Y_X12_years 33 (.invokestatic 253) 3 36 from ⟨by decide +kernel, rfl⟩) w_m_RX12_253 w_st_X12_lay w_cw_X12_lay (c_X12_lay N v4 v5 (0 : Int32) g3) rfl rfl (by decide) (Nat.le_of_ble_eq_true rfl) (by decide) (by decide) (fun g6 => ?_)
    refine J_iconst (0 : Int32) rfl (show Dc Y_X12_years 36 (.iconst 0) 1 37 from ⟨by decide +kernel, rfl⟩) ?_
    refine J_istore [some (.ref x0), some (.int x1), some (.int x2), some (.int (0 : Int32)), some (.int (0 : Int32)), none, none, none] (show Dc Y_X12_years 37 (.istore 4) 2 39 from ⟨by decide +kernel, rfl⟩) (by decide) rfl rfl ?_
    refine J_mask [true, false, true, true, true, false, false, false] ?_
    exact J_loop (X := X) (K := K) (uc := fun _ => 0) (us := fun _ => 0) (lf := fun s => [some (.ref x0), none, some (.int x2), some (.int s.1), some (.int s.2.1), none, none, none]) (gf := fun s => s.2.2) (fun s => j_X12_years_39 (K := zKl Y_X12_years X 39 (fun _ => 0) (fun _ => 0) (fun s => [some (.ref x0), none, some (.int x2), some (.int s.1), some (.int s.2.1), none, none, none]) (fun s => s.2.2) K) N x0 x2 s.1 s.2.1 s.2.2 h0 (fun s h => h)) N ((0 : Int32), (0 : Int32), g6)
  · refine J_iconst (-1 : Int32) rfl (show Dc Y_X12_years 15 (.iconst (-1)) 1 16 from ⟨by decide +kernel, rfl⟩) ?_
    exact J_reti (show Dc Y_X12_years 16 (.ireturn) 1 17 from ⟨by decide +kernel, rfl⟩) rfl (h0 _ _) (by decide) (by decide)

theorem c_X12_years {l : Launch} {D : ZD} {B0 : Nat} (N : Nat) (x0 : Nat) (x1 : Int32) (x2 : Int32) (g : ZS) : ∀ r, f_X12_years N x0 x1 x2 g = some r → zCt l D B0 yX12_years Y_X12_years [.ref x0, .int x1, .int x2] g (some (.int r.1)) r.2 :=
  zCt_ofF (vo := fun r => some (.int r.1)) (so := fun r => r.2) (by decide +kernel) rfl (fun h => by cases h) rfl (Nat.le_of_ble_eq_true rfl) (fun X => j_X12_years N x0 x1 x2 g (fun _ _ h => h))
