def f_X11_parrot_90 (N : Nat)  (s0 : Int32) (g : ZS) : Option (Option Int32 × ZS) :=
  some (some s0, g)

def f_X11_parrot (N : Nat) (x0 : Nat) (x1 : Int32) (x2 : Int32)  (g : ZS) : Option (Option Int32 × ZS) :=
  zvs g x0 11 <| (f_X11_isParrot x0 x1 g).bind fun v1 =>
  if v1 = 0 then
    some (none, zthrown g)
  else
    (zrdR g x0 11 6).bind fun v2 =>
    (zrdR g v2 6 0).bind fun v3 =>
    (zaald 25 g v3 x1).bind fun v4 =>
    zcase x2 [
      ((0 : Int32),
        (zrdI g v4 0 4).bind fun v5 =>
        some (some v5, g)),
      ((1 : Int32),
        (zrdI g v4 0 5).bind fun v6 =>
        some (some v6, g)),
      ((2 : Int32),
        (zrdI g v4 0 6).bind fun v7 =>
        if v7 = 0 then
          f_X11_parrot_90 N (0 : Int32) g
        else
          f_X11_parrot_90 N (1 : Int32) g),
      ((3 : Int32),
        (zrdI g v4 0 7).bind fun v8 =>
        some (some v8, g)),
      ((4 : Int32),
        zvs g v4 0 <| (f_X0_known N v4 g).bind fun v9 =>
        some (some v9, g)),
      ((5 : Int32),
        (zrdI g v4 0 8).bind fun v10 =>
        some (some v10, g))] (
      some (none, zthrown g))

def f_X11_word_15 (N : Nat)   (g : ZS) : Option (Option Int32 × ZS) :=
  some (none, zthrown g)

def f_X11_word_112 (N : Nat)  (s0 : Int32) (g : ZS) : Option (Option Int32 × ZS) :=
  some (some s0, g)

def f_X11_word_129 (N : Nat)  (s0 : Int32) (g : ZS) : Option (Option Int32 × ZS) :=
  some (some s0, g)

def f_X11_word_163 (N : Nat)  (s0 : Int32) (g : ZS) : Option (Option Int32 × ZS) :=
  some (some s0, g)

def f_X11_word_51 (N : Nat) (x0 : Nat) (x2 : Int32) (x3 : Int32) (x4 : Nat) (s0 : Int32) (g : ZS) : Option (Option Int32 × ZS) :=
  zcase x3 [
    ((0 : Int32),
      (zrdR g x4 0 0).bind fun v1 =>
      (zald 20 g v1 x2).bind fun v2 =>
      some (some v2, g)),
    ((1 : Int32),
      if s0 = 0 then
        (zrdR g x4 0 1).bind fun v3 =>
        (zald 20 g v3 x2).bind fun v4 =>
        f_X11_word_112 N v4 g
      else
        f_X11_word_112 N (-1 : Int32) g),
    ((2 : Int32),
      if s0 = 0 then
        (zrdR g x4 0 2).bind fun v5 =>
        (zald 20 g v5 x2).bind fun v6 =>
        f_X11_word_129 N v6 g
      else
        f_X11_word_129 N (-1 : Int32) g),
    ((3 : Int32),
      (zrdR g x4 0 3).bind fun v7 =>
      (zald 20 g v7 x2).bind fun v8 =>
      some (some v8, g)),
    ((4 : Int32),
      if s0 = 0 then
        (zrdR g x0 11 4).bind fun v9 =>
        (zrdR g x0 11 3).bind fun v10 =>
        (zald 20 g v10 x2).bind fun v11 =>
        zvs g v9 5 <| (f_X5_fondness N v9 x4 x2 v11 g).bind fun r12 =>
        f_X11_word_163 N r12.1 r12.2
      else
        f_X11_word_163 N (0 : Int32) g)] (
    some (none, zthrown g))

def f_X11_word (N : Nat) (x0 : Nat) (x1 : Int32) (x2 : Int32) (x3 : Int32)  (g : ZS) : Option (Option Int32 × ZS) :=
  zvs g x0 11 <| (f_X11_isParrot x0 x1 g).bind fun v1 =>
  if v1 = 0 then
    f_X11_word_15 N g
  else
    (f_X11_isWord x2).bind fun v2 =>
    if v2 = 0 then
      f_X11_word_15 N g
    else
      (zrdR g x0 11 6).bind fun v3 =>
      (zrdR g v3 6 0).bind fun v4 =>
      (zaald 25 g v4 x1).bind fun v5 =>
      (zrdR g v5 0 0).bind fun v6 =>
      (zald 20 g v6 x2).bind fun v7 =>
      if v7 = 0 then
        f_X11_word_51 N x0 x2 x3 v5 (1 : Int32) g
      else
        f_X11_word_51 N x0 x2 x3 v5 (0 : Int32) g

def f_X11_row_15   (g : ZS) : Option (Option Int64 × ZS) :=
  some (none, zthrown g)

def f_X11_row (x0 : Nat) (x1 : Int32)  (g : ZS) : Option (Option Int64 × ZS) :=
  if x1 < 0 then
    f_X11_row_15 g
  else
    (zrdR g x0 11 1).bind fun v1 =>
    (zrdI g v1 9 1).bind fun v2 =>
    if x1 < v2 then
      (zrdR g x0 11 1).bind fun v3 =>
      (zrdR g v3 9 0).bind fun v4 =>
      (zlald g v4 x1).bind fun v5 =>
      some (some v5, g)
    else
      f_X11_row_15 g

theorem j_X11_parrot_90 {X : ZX} (hst : (xl X).stackTraces = false) (ht : ∀ x ∈ (xc X).exceptionTable.toList, False) (N : Nat)  (s0 : Int32)  (g : ZS) {K : (Option Int32 × ZS) → Prop} (h0 : ∀ v g, K (some v, g) → xK X (some (.int v)) g) (hX : ∀ g, K (none, g) → ∀ t, zThr Y_X11_parrot X g t → xQ X t) : J Y_X11_parrot X 0 0 90 [none, none, none, none] [.int s0] g (f_X11_parrot_90 N s0 g) K := by
  unfold f_X11_parrot_90
  exact J_reti (show Dc Y_X11_parrot 90 (.ireturn) 1 91 from ⟨by decide +kernel, rfl⟩) rfl (h0 _ _) (by decide) (by decide)

theorem j_X11_parrot {X : ZX} (hst : (xl X).stackTraces = false) (ht : ∀ x ∈ (xc X).exceptionTable.toList, False) (N : Nat) (x0 : Nat) (x1 : Int32) (x2 : Int32)   (g : ZS) {K : (Option Int32 × ZS) → Prop} (h0 : ∀ v g, K (some v, g) → xK X (some (.int v)) g) (hX : ∀ g, K (none, g) → ∀ t, zThr Y_X11_parrot X g t → xQ X t) : J Y_X11_parrot X 0 0 0 [some (.ref x0), some (.int x1), some (.int x2), none] [] g (f_X11_parrot N x0 x1 x2 g) K := by
  unfold f_X11_parrot
  refine J_aload_n rfl rfl (show Dc Y_X11_parrot 0 (.aload_n 0) 1 1 from ⟨by decide +kernel, rfl⟩) ?_
  refine J_iload_n rfl rfl (show Dc Y_X11_parrot 1 (.iload_n 1) 1 2 from ⟨by decide +kernel, rfl⟩) ?_
  refine J_callVi (fun r => r) (fun _ => g) (show Dc Y_X11_parrot 2 (.invokevirtual 161) 3 5 from ⟨by decide +kernel, rfl⟩) w_m_RX11_161 w_in_X11_isParrot rfl w_se_X11_isParrot w_cw_X11_isParrot (c_X11_isParrot x0 x1 g) rfl rfl (by decide) (Nat.le_of_ble_eq_true rfl) (by decide) (by decide) (fun v1 => ?_)
  refine J_if_ne (tg := 18) (show Dc Y_X11_parrot 5 (.ifCond .ne 13) 3 8 from ⟨by decide +kernel, rfl⟩) (by decide) (fun h => ?_) (fun h => ?_)
  · refine J_aload_n rfl rfl (show Dc Y_X11_parrot 18 (.aload_n 0) 1 19 from ⟨by decide +kernel, rfl⟩) ?_
    refine J_getR (show Dc Y_X11_parrot 19 (.getfield 47) 3 22 from ⟨by decide +kernel, rfl⟩) w_f_RX11_47 rfl (fun v2 => ?_)
    refine J_getR (show Dc Y_X11_parrot 22 (.getfield 171) 3 25 from ⟨by decide +kernel, rfl⟩) w_f_RX11_171 rfl (fun v3 => ?_)
    refine J_iload_n rfl rfl (show Dc Y_X11_parrot 25 (.iload_n 1) 1 26 from ⟨by decide +kernel, rfl⟩) ?_
    refine J_aald (kd := 25) (by decide) (by decide) (show Dc Y_X11_parrot 26 (.aaload) 1 27 from ⟨by decide +kernel, rfl⟩) (fun v4 => ?_)
    refine J_astore_n [some (.ref x0), some (.int x1), some (.int x2), some (.ref v4)] (show Dc Y_X11_parrot 27 (.astore_n 3) 1 28 from ⟨by decide +kernel, rfl⟩) rfl (by decide) rfl rfl ?_
    refine J_iload_n rfl rfl (show Dc Y_X11_parrot 28 (.iload_n 2) 1 29 from ⟨by decide +kernel, rfl⟩) ?_
    refine J_tsw (tgd := 106) [((0 : Int32), 68, _), ((1 : Int32), 73, _), ((2 : Int32), 78, _), ((3 : Int32), 91, _), ((4 : Int32), 96, _), ((5 : Int32), 101, _)] (show Dc Y_X11_parrot 29 (.tableswitch 77 0 5 #[39, 44, 49, 62, 67, 72]) 39 68 from ⟨by decide +kernel, rfl⟩) (by simp only [List.map_cons, List.map_nil]; decide +kernel) ?_ ?_
    · refine List.forall_mem_cons.mpr ⟨?_, List.forall_mem_cons.mpr ⟨?_, List.forall_mem_cons.mpr ⟨?_, List.forall_mem_cons.mpr ⟨?_, List.forall_mem_cons.mpr ⟨?_, List.forall_mem_cons.mpr ⟨?_, fun _ h => absurd h List.not_mem_nil⟩⟩⟩⟩⟩⟩
      · refine J_aload_n rfl rfl (show Dc Y_X11_parrot 68 (.aload_n 3) 1 69 from ⟨by decide +kernel, rfl⟩) ?_
        refine J_getI (show Dc Y_X11_parrot 69 (.getfield 175) 3 72 from ⟨by decide +kernel, rfl⟩) w_f_RX11_175 rfl (fun v5 => ?_)
        exact J_reti (show Dc Y_X11_parrot 72 (.ireturn) 1 73 from ⟨by decide +kernel, rfl⟩) rfl (h0 _ _) (by decide) (by decide)
      · refine J_aload_n rfl rfl (show Dc Y_X11_parrot 73 (.aload_n 3) 1 74 from ⟨by decide +kernel, rfl⟩) ?_
        refine J_getI (show Dc Y_X11_parrot 74 (.getfield 178) 3 77 from ⟨by decide +kernel, rfl⟩) w_f_RX11_178 rfl (fun v6 => ?_)
        exact J_reti (show Dc Y_X11_parrot 77 (.ireturn) 1 78 from ⟨by decide +kernel, rfl⟩) rfl (h0 _ _) (by decide) (by decide)
      · refine J_aload_n rfl rfl (show Dc Y_X11_parrot 78 (.aload_n 3) 1 79 from ⟨by decide +kernel, rfl⟩) ?_
        refine J_getI (show Dc Y_X11_parrot 79 (.getfield 181) 3 82 from ⟨by decide +kernel, rfl⟩) w_f_RX11_181 rfl (fun v7 => ?_)
        refine J_if_eq (tg := 89) (show Dc Y_X11_parrot 82 (.ifCond .eq 7) 3 85 from ⟨by decide +kernel, rfl⟩) (by decide) (fun h => ?_) (fun h => ?_)
        · refine J_iconst (0 : Int32) rfl (show Dc Y_X11_parrot 89 (.iconst 0) 1 90 from ⟨by decide +kernel, rfl⟩) ?_
          refine J_mask [false, false, false, false] ?_
          exact j_X11_parrot_90 hst ht N (0 : Int32) g h0 hX
        · refine J_iconst (1 : Int32) rfl (show Dc Y_X11_parrot 85 (.iconst 1) 1 86 from ⟨by decide +kernel, rfl⟩) ?_
          refine J_goto (tg := 90) (show Dc Y_X11_parrot 86 (.goto 4) 3 89 from ⟨by decide +kernel, rfl⟩) (by decide) ?_
          refine J_mask [false, false, false, false] ?_
          exact j_X11_parrot_90 hst ht N (1 : Int32) g h0 hX
      · refine J_aload_n rfl rfl (show Dc Y_X11_parrot 91 (.aload_n 3) 1 92 from ⟨by decide +kernel, rfl⟩) ?_
        refine J_getI (show Dc Y_X11_parrot 92 (.getfield 185) 3 95 from ⟨by decide +kernel, rfl⟩) w_f_RX11_185 rfl (fun v8 => ?_)
        exact J_reti (show Dc Y_X11_parrot 95 (.ireturn) 1 96 from ⟨by decide +kernel, rfl⟩) rfl (h0 _ _) (by decide) (by decide)
      · refine J_aload_n rfl rfl (show Dc Y_X11_parrot 96 (.aload_n 3) 1 97 from ⟨by decide +kernel, rfl⟩) ?_
        refine J_callVi (fun r => r) (fun _ => g) (show Dc Y_X11_parrot 97 (.invokevirtual 188) 3 100 from ⟨by decide +kernel, rfl⟩) w_m_RX11_188 w_in_X0_known rfl w_se_X0_known w_cw_X0_known (c_X0_known N v4 g) rfl rfl (by decide) (Nat.le_of_ble_eq_true rfl) (by decide) (by decide) (fun v9 => ?_)
        exact J_reti (show Dc Y_X11_parrot 100 (.ireturn) 1 101 from ⟨by decide +kernel, rfl⟩) rfl (h0 _ _) (by decide) (by decide)
      · refine J_aload_n rfl rfl (show Dc Y_X11_parrot 101 (.aload_n 3) 1 102 from ⟨by decide +kernel, rfl⟩) ?_
        refine J_getI (show Dc Y_X11_parrot 102 (.getfield 191) 3 105 from ⟨by decide +kernel, rfl⟩) w_f_RX11_191 rfl (fun v10 => ?_)
        exact J_reti (show Dc Y_X11_parrot 105 (.ireturn) 1 106 from ⟨by decide +kernel, rfl⟩) rfl (h0 _ _) (by decide) (by decide)
    · exact J_throwS (i := 82) hst ht rfl t_s194 (by decide +kernel) (show decode cX11_parrot 106 = .ok (.new 164, 3) by decide +kernel) (show decode cX11_parrot 109 = .ok (.dup, 1) by decide +kernel) (show decode cX11_parrot 110 = .ok (.ldc 194, 2) by decide +kernel) (show decode cX11_parrot 112 = .ok (.invokespecial 168, 3) by decide +kernel) (show decode cX11_parrot 115 = .ok (.athrow, 1) by decide +kernel) (by decide) (Nat.le_of_ble_eq_true rfl) (by decide) (by decide) (hX _)
  · exact J_throwS (i := 63) hst ht rfl t_s166 (by decide +kernel) (show decode cX11_parrot 8 = .ok (.new 164, 3) by decide +kernel) (show decode cX11_parrot 11 = .ok (.dup, 1) by decide +kernel) (show decode cX11_parrot 12 = .ok (.ldc 166, 2) by decide +kernel) (show decode cX11_parrot 14 = .ok (.invokespecial 168, 3) by decide +kernel) (show decode cX11_parrot 17 = .ok (.athrow, 1) by decide +kernel) (by decide) (Nat.le_of_ble_eq_true rfl) (by decide) (by decide) (hX _)

theorem c_X11_parrot {l : Launch} (hl : l.stackTraces = false) {D : ZD} {B0 : Nat} (N : Nat) (x0 : Nat) (x1 : Int32) (x2 : Int32) (g : ZS) : ∀ r, f_X11_parrot N x0 x1 x2 g = some r → zCtX l D B0 yX11_parrot Y_X11_parrot [.ref x0, .int x1, .int x2] g (r.1.map fun v => some (.int v)) r.2 :=
  zCtX_of (vo := fun r => (r.1.map fun v => some (.int v))) (so := fun r => r.2) hl (by decide +kernel) rfl rfl (Nat.le_of_ble_eq_true rfl) rfl (fun X hst ht => j_X11_parrot hst ht N x0 x1 x2 g (fun _ _ h => h.1 _ rfl) (fun _ h => h.2 rfl))

theorem j_X11_word_15 {X : ZX} (hst : (xl X).stackTraces = false) (ht : ∀ x ∈ (xc X).exceptionTable.toList, False) (N : Nat)    (g : ZS) {K : (Option Int32 × ZS) → Prop} (h0 : ∀ v g, K (some v, g) → xK X (some (.int v)) g) (hX : ∀ g, K (none, g) → ∀ t, zThr Y_X11_word X g t → xQ X t) : J Y_X11_word X 0 0 15 [none, none, none, none, none, none] [] g (f_X11_word_15 N g) K := by
  unfold f_X11_word_15
  exact J_throwS (i := 112) hst ht rfl t_s199 (by decide +kernel) (show decode cX11_word 15 = .ok (.new 164, 3) by decide +kernel) (show decode cX11_word 18 = .ok (.dup, 1) by decide +kernel) (show decode cX11_word 19 = .ok (.ldc 199, 2) by decide +kernel) (show decode cX11_word 21 = .ok (.invokespecial 168, 3) by decide +kernel) (show decode cX11_word 24 = .ok (.athrow, 1) by decide +kernel) (by decide) (Nat.le_of_ble_eq_true rfl) (by decide) (by decide) (hX _)

theorem j_X11_word_112 {X : ZX} (hst : (xl X).stackTraces = false) (ht : ∀ x ∈ (xc X).exceptionTable.toList, False) (N : Nat)  (s0 : Int32)  (g : ZS) {K : (Option Int32 × ZS) → Prop} (h0 : ∀ v g, K (some v, g) → xK X (some (.int v)) g) (hX : ∀ g, K (none, g) → ∀ t, zThr Y_X11_word X g t → xQ X t) : J Y_X11_word X 0 0 112 [none, none, none, none, none, none] [.int s0] g (f_X11_word_112 N s0 g) K := by
  unfold f_X11_word_112
  exact J_reti (show Dc Y_X11_word 112 (.ireturn) 1 113 from ⟨by decide +kernel, rfl⟩) rfl (h0 _ _) (by decide) (by decide)

theorem j_X11_word_129 {X : ZX} (hst : (xl X).stackTraces = false) (ht : ∀ x ∈ (xc X).exceptionTable.toList, False) (N : Nat)  (s0 : Int32)  (g : ZS) {K : (Option Int32 × ZS) → Prop} (h0 : ∀ v g, K (some v, g) → xK X (some (.int v)) g) (hX : ∀ g, K (none, g) → ∀ t, zThr Y_X11_word X g t → xQ X t) : J Y_X11_word X 0 0 129 [none, none, none, none, none, none] [.int s0] g (f_X11_word_129 N s0 g) K := by
  unfold f_X11_word_129
  exact J_reti (show Dc Y_X11_word 129 (.ireturn) 1 130 from ⟨by decide +kernel, rfl⟩) rfl (h0 _ _) (by decide) (by decide)

theorem j_X11_word_163 {X : ZX} (hst : (xl X).stackTraces = false) (ht : ∀ x ∈ (xc X).exceptionTable.toList, False) (N : Nat)  (s0 : Int32)  (g : ZS) {K : (Option Int32 × ZS) → Prop} (h0 : ∀ v g, K (some v, g) → xK X (some (.int v)) g) (hX : ∀ g, K (none, g) → ∀ t, zThr Y_X11_word X g t → xQ X t) : J Y_X11_word X 0 0 163 [none, none, none, none, none, none] [.int s0] g (f_X11_word_163 N s0 g) K := by
  unfold f_X11_word_163
  exact J_reti (show Dc Y_X11_word 163 (.ireturn) 1 164 from ⟨by decide +kernel, rfl⟩) rfl (h0 _ _) (by decide) (by decide)

theorem j_X11_word_51 {X : ZX} (hst : (xl X).stackTraces = false) (ht : ∀ x ∈ (xc X).exceptionTable.toList, False) (N : Nat) (x0 : Nat) (x2 : Int32) (x3 : Int32) (x4 : Nat) (s0 : Int32)  (g : ZS) {K : (Option Int32 × ZS) → Prop} (h0 : ∀ v g, K (some v, g) → xK X (some (.int v)) g) (hX : ∀ g, K (none, g) → ∀ t, zThr Y_X11_word X g t → xQ X t) : J Y_X11_word X 0 0 51 [some (.ref x0), none, some (.int x2), some (.int x3), some (.ref x4), none] [.int s0] g (f_X11_word_51 N x0 x2 x3 x4 s0 g) K := by
  unfold f_X11_word_51
  refine J_istore [some (.ref x0), none, some (.int x2), some (.int x3), some (.ref x4), some (.int s0)] (show Dc Y_X11_word 51 (.istore 5) 2 53 from ⟨by decide +kernel, rfl⟩) (by decide) rfl rfl ?_
  refine J_iload_n rfl rfl (show Dc Y_X11_word 53 (.iload_n 3) 1 54 from ⟨by decide +kernel, rfl⟩) ?_
  refine J_tsw (tgd := 164) [((0 : Int32), 88, _), ((1 : Int32), 96, _), ((2 : Int32), 113, _), ((3 : Int32), 130, _), ((4 : Int32), 138, _)] (show Dc Y_X11_word 54 (.tableswitch 110 0 4 #[34, 42, 59, 76, 84]) 34 88 from ⟨by decide +kernel, rfl⟩) (by simp only [List.map_cons, List.map_nil]; decide +kernel) ?_ ?_
  · refine List.forall_mem_cons.mpr ⟨?_, List.forall_mem_cons.mpr ⟨?_, List.forall_mem_cons.mpr ⟨?_, List.forall_mem_cons.mpr ⟨?_, List.forall_mem_cons.mpr ⟨?_, fun _ h => absurd h List.not_mem_nil⟩⟩⟩⟩⟩
    · refine J_aload rfl (show Dc Y_X11_word 88 (.aload 4) 2 90 from ⟨by decide +kernel, rfl⟩) ?_
      refine J_getR (show Dc Y_X11_word 90 (.getfield 201) 3 93 from ⟨by decide +kernel, rfl⟩) w_f_RX11_201 rfl (fun v1 => ?_)
      refine J_iload_n rfl rfl (show Dc Y_X11_word 93 (.iload_n 2) 1 94 from ⟨by decide +kernel, rfl⟩) ?_
      refine J_iald (show Dc Y_X11_word 94 (.iaload) 1 95 from ⟨by decide +kernel, rfl⟩) (fun v2 => ?_)
      exact J_reti (show Dc Y_X11_word 95 (.ireturn) 1 96 from ⟨by decide +kernel, rfl⟩) rfl (h0 _ _) (by decide) (by decide)
    · refine J_iload rfl (show Dc Y_X11_word 96 (.iload 5) 2 98 from ⟨by decide +kernel, rfl⟩) ?_
      refine J_if_eq (tg := 105) (show Dc Y_X11_word 98 (.ifCond .eq 7) 3 101 from ⟨by decide +kernel, rfl⟩) (by decide) (fun h => ?_) (fun h => ?_)
      · refine J_aload rfl (show Dc Y_X11_word 105 (.aload 4) 2 107 from ⟨by decide +kernel, rfl⟩) ?_
        refine J_getR (show Dc Y_X11_word 107 (.getfield 204) 3 110 from ⟨by decide +kernel, rfl⟩) w_f_RX11_204 rfl (fun v3 => ?_)
        refine J_iload_n rfl rfl (show Dc Y_X11_word 110 (.iload_n 2) 1 111 from ⟨by decide +kernel, rfl⟩) ?_
        refine J_iald (show Dc Y_X11_word 111 (.iaload) 1 112 from ⟨by decide +kernel, rfl⟩) (fun v4 => ?_)
        refine J_mask [false, false, false, false, false, false] ?_
        exact j_X11_word_112 hst ht N v4 g h0 hX
      · refine J_iconst (-1 : Int32) rfl (show Dc Y_X11_word 101 (.iconst (-1)) 1 102 from ⟨by decide +kernel, rfl⟩) ?_
        refine J_goto (tg := 112) (show Dc Y_X11_word 102 (.goto 10) 3 105 from ⟨by decide +kernel, rfl⟩) (by decide) ?_
        refine J_mask [false, false, false, false, false, false] ?_
        exact j_X11_word_112 hst ht N (-1 : Int32) g h0 hX
    · refine J_iload rfl (show Dc Y_X11_word 113 (.iload 5) 2 115 from ⟨by decide +kernel, rfl⟩) ?_
      refine J_if_eq (tg := 122) (show Dc Y_X11_word 115 (.ifCond .eq 7) 3 118 from ⟨by decide +kernel, rfl⟩) (by decide) (fun h => ?_) (fun h => ?_)
      · refine J_aload rfl (show Dc Y_X11_word 122 (.aload 4) 2 124 from ⟨by decide +kernel, rfl⟩) ?_
        refine J_getR (show Dc Y_X11_word 124 (.getfield 207) 3 127 from ⟨by decide +kernel, rfl⟩) w_f_RX11_207 rfl (fun v5 => ?_)
        refine J_iload_n rfl rfl (show Dc Y_X11_word 127 (.iload_n 2) 1 128 from ⟨by decide +kernel, rfl⟩) ?_
        refine J_iald (show Dc Y_X11_word 128 (.iaload) 1 129 from ⟨by decide +kernel, rfl⟩) (fun v6 => ?_)
        refine J_mask [false, false, false, false, false, false] ?_
        exact j_X11_word_129 hst ht N v6 g h0 hX
      · refine J_iconst (-1 : Int32) rfl (show Dc Y_X11_word 118 (.iconst (-1)) 1 119 from ⟨by decide +kernel, rfl⟩) ?_
        refine J_goto (tg := 129) (show Dc Y_X11_word 119 (.goto 10) 3 122 from ⟨by decide +kernel, rfl⟩) (by decide) ?_
        refine J_mask [false, false, false, false, false, false] ?_
        exact j_X11_word_129 hst ht N (-1 : Int32) g h0 hX
    · refine J_aload rfl (show Dc Y_X11_word 130 (.aload 4) 2 132 from ⟨by decide +kernel, rfl⟩) ?_
      refine J_getR (show Dc Y_X11_word 132 (.getfield 210) 3 135 from ⟨by decide +kernel, rfl⟩) w_f_RX11_210 rfl (fun v7 => ?_)
      refine J_iload_n rfl rfl (show Dc Y_X11_word 135 (.iload_n 2) 1 136 from ⟨by decide +kernel, rfl⟩) ?_
      refine J_iald (show Dc Y_X11_word 136 (.iaload) 1 137 from ⟨by decide +kernel, rfl⟩) (fun v8 => ?_)
      exact J_reti (show Dc Y_X11_word 137 (.ireturn) 1 138 from ⟨by decide +kernel, rfl⟩) rfl (h0 _ _) (by decide) (by decide)
    · refine J_iload rfl (show Dc Y_X11_word 138 (.iload 5) 2 140 from ⟨by decide +kernel, rfl⟩) ?_
      refine J_if_eq (tg := 147) (show Dc Y_X11_word 140 (.ifCond .eq 7) 3 143 from ⟨by decide +kernel, rfl⟩) (by decide) (fun h => ?_) (fun h => ?_)
      · refine J_aload_n rfl rfl (show Dc Y_X11_word 147 (.aload_n 0) 1 148 from ⟨by decide +kernel, rfl⟩) ?_
        refine J_getR (show Dc Y_X11_word 148 (.getfield 37) 3 151 from ⟨by decide +kernel, rfl⟩) w_f_RX11_37 rfl (fun v9 => ?_)
        refine J_aload rfl (show Dc Y_X11_word 151 (.aload 4) 2 153 from ⟨by decide +kernel, rfl⟩) ?_
        refine J_iload_n rfl rfl (show Dc Y_X11_word 153 (.iload_n 2) 1 154 from ⟨by decide +kernel, rfl⟩) ?_
        refine J_aload_n rfl rfl (show Dc Y_X11_word 154 (.aload_n 0) 1 155 from ⟨by decide +kernel, rfl⟩) ?_
        refine J_getR (show Dc Y_X11_word 155 (.getfield 30) 3 158 from ⟨by decide +kernel, rfl⟩) w_f_RX11_30 rfl (fun v10 => ?_)
        refine J_iload_n rfl rfl (show Dc Y_X11_word 158 (.iload_n 2) 1 159 from ⟨by decide +kernel, rfl⟩) ?_
        refine J_iald (show Dc Y_X11_word 159 (.iaload) 1 160 from ⟨by decide +kernel, rfl⟩) (fun v11 => ?_)
        refine J_callVi (fun r => r.1) (fun r => r.2) (show Dc Y_X11_word 160 (.invokevirtual 213) 3 163 from ⟨by decide +kernel, rfl⟩) w_m_RX11_213 w_in_X5_fondness rfl w_se_X5_fondness w_cw_X5_fondness (c_X5_fondness N v9 x4 x2 v11 g) rfl rfl (by decide) (Nat.le_of_ble_eq_true rfl) (by decide) (by decide) (fun r12 => ?_)
        refine J_mask [false, false, false, false, false, false] ?_
        exact j_X11_word_163 hst ht N r12.1 r12.2 h0 hX
      · refine J_iconst (0 : Int32) rfl (show Dc Y_X11_word 143 (.iconst 0) 1 144 from ⟨by decide +kernel, rfl⟩) ?_
        refine J_goto (tg := 163) (show Dc Y_X11_word 144 (.goto 19) 3 147 from ⟨by decide +kernel, rfl⟩) (by decide) ?_
        refine J_mask [false, false, false, false, false, false] ?_
        exact j_X11_word_163 hst ht N (0 : Int32) g h0 hX
  · exact J_throwS (i := 141) hst ht rfl t_s217 (by decide +kernel) (show decode cX11_word 164 = .ok (.new 164, 3) by decide +kernel) (show decode cX11_word 167 = .ok (.dup, 1) by decide +kernel) (show decode cX11_word 168 = .ok (.ldc 217, 2) by decide +kernel) (show decode cX11_word 170 = .ok (.invokespecial 168, 3) by decide +kernel) (show decode cX11_word 173 = .ok (.athrow, 1) by decide +kernel) (by decide) (Nat.le_of_ble_eq_true rfl) (by decide) (by decide) (hX _)

theorem j_X11_word {X : ZX} (hst : (xl X).stackTraces = false) (ht : ∀ x ∈ (xc X).exceptionTable.toList, False) (N : Nat) (x0 : Nat) (x1 : Int32) (x2 : Int32) (x3 : Int32)   (g : ZS) {K : (Option Int32 × ZS) → Prop} (h0 : ∀ v g, K (some v, g) → xK X (some (.int v)) g) (hX : ∀ g, K (none, g) → ∀ t, zThr Y_X11_word X g t → xQ X t) : J Y_X11_word X 0 0 0 [some (.ref x0), some (.int x1), some (.int x2), some (.int x3), none, none] [] g (f_X11_word N x0 x1 x2 x3 g) K := by
  unfold f_X11_word
  refine J_aload_n rfl rfl (show Dc Y_X11_word 0 (.aload_n 0) 1 1 from ⟨by decide +kernel, rfl⟩) ?_
  refine J_iload_n rfl rfl (show Dc Y_X11_word 1 (.iload_n 1) 1 2 from ⟨by decide +kernel, rfl⟩) ?_
  refine J_callVi (fun r => r) (fun _ => g) (show Dc Y_X11_word 2 (.invokevirtual 161) 3 5 from ⟨by decide +kernel, rfl⟩) w_m_RX11_161 w_in_X11_isParrot rfl w_se_X11_isParrot w_cw_X11_isParrot (c_X11_isParrot x0 x1 g) rfl rfl (by decide) (Nat.le_of_ble_eq_true rfl) (by decide) (by decide) (fun v1 => ?_)
  refine J_if_eq (tg := 15) (show Dc Y_X11_word 5 (.ifCond .eq 10) 3 8 from ⟨by decide +kernel, rfl⟩) (by decide) (fun h => ?_) (fun h => ?_)
  · refine J_mask [false, false, false, false, false, false] ?_
    exact j_X11_word_15 hst ht N g h0 hX
  · refine J_iload_n rfl rfl (show Dc Y_X11_word 8 (.iload_n 2) 1 9 from ⟨by decide +kernel, rfl⟩) ?_
    refine J_callSi (fun r => r) (fun _ => g) (show Dc Y_X11_word 9 (.invokestatic 196) 3 12 from ⟨by decide +kernel, rfl⟩) w_m_RX11_196 w_st_X11_isWord w_cw_X11_isWord (c_X11_isWord x2 g) rfl rfl (by decide) (Nat.le_of_ble_eq_true rfl) (by decide) (by decide) (fun v2 => ?_)
    refine J_if_ne (tg := 25) (show Dc Y_X11_word 12 (.ifCond .ne 13) 3 15 from ⟨by decide +kernel, rfl⟩) (by decide) (fun h => ?_) (fun h => ?_)
    · refine J_aload_n rfl rfl (show Dc Y_X11_word 25 (.aload_n 0) 1 26 from ⟨by decide +kernel, rfl⟩) ?_
      refine J_getR (show Dc Y_X11_word 26 (.getfield 47) 3 29 from ⟨by decide +kernel, rfl⟩) w_f_RX11_47 rfl (fun v3 => ?_)
      refine J_getR (show Dc Y_X11_word 29 (.getfield 171) 3 32 from ⟨by decide +kernel, rfl⟩) w_f_RX11_171 rfl (fun v4 => ?_)
      refine J_iload_n rfl rfl (show Dc Y_X11_word 32 (.iload_n 1) 1 33 from ⟨by decide +kernel, rfl⟩) ?_
      refine J_aald (kd := 25) (by decide) (by decide) (show Dc Y_X11_word 33 (.aaload) 1 34 from ⟨by decide +kernel, rfl⟩) (fun v5 => ?_)
      refine J_astore [some (.ref x0), some (.int x1), some (.int x2), some (.int x3), some (.ref v5), none] (show Dc Y_X11_word 34 (.astore 4) 2 36 from ⟨by decide +kernel, rfl⟩) (by decide) rfl rfl ?_
      refine J_aload rfl (show Dc Y_X11_word 36 (.aload 4) 2 38 from ⟨by decide +kernel, rfl⟩) ?_
      refine J_getR (show Dc Y_X11_word 38 (.getfield 201) 3 41 from ⟨by decide +kernel, rfl⟩) w_f_RX11_201 rfl (fun v6 => ?_)
      refine J_iload_n rfl rfl (show Dc Y_X11_word 41 (.iload_n 2) 1 42 from ⟨by decide +kernel, rfl⟩) ?_
      refine J_iald (show Dc Y_X11_word 42 (.iaload) 1 43 from ⟨by decide +kernel, rfl⟩) (fun v7 => ?_)
      refine J_if_ne (tg := 50) (show Dc Y_X11_word 43 (.ifCond .ne 7) 3 46 from ⟨by decide +kernel, rfl⟩) (by decide) (fun h => ?_) (fun h => ?_)
      · refine J_iconst (0 : Int32) rfl (show Dc Y_X11_word 50 (.iconst 0) 1 51 from ⟨by decide +kernel, rfl⟩) ?_
        refine J_mask [true, false, true, true, true, false] ?_
        exact j_X11_word_51 hst ht N x0 x2 x3 v5 (0 : Int32) g h0 hX
      · refine J_iconst (1 : Int32) rfl (show Dc Y_X11_word 46 (.iconst 1) 1 47 from ⟨by decide +kernel, rfl⟩) ?_
        refine J_goto (tg := 51) (show Dc Y_X11_word 47 (.goto 4) 3 50 from ⟨by decide +kernel, rfl⟩) (by decide) ?_
        refine J_mask [true, false, true, true, true, false] ?_
        exact j_X11_word_51 hst ht N x0 x2 x3 v5 (1 : Int32) g h0 hX
    · refine J_mask [false, false, false, false, false, false] ?_
      exact j_X11_word_15 hst ht N g h0 hX

theorem c_X11_word {l : Launch} (hl : l.stackTraces = false) {D : ZD} {B0 : Nat} (N : Nat) (x0 : Nat) (x1 : Int32) (x2 : Int32) (x3 : Int32) (g : ZS) : ∀ r, f_X11_word N x0 x1 x2 x3 g = some r → zCtX l D B0 yX11_word Y_X11_word [.ref x0, .int x1, .int x2, .int x3] g (r.1.map fun v => some (.int v)) r.2 :=
  zCtX_of (vo := fun r => (r.1.map fun v => some (.int v))) (so := fun r => r.2) hl (by decide +kernel) rfl rfl (Nat.le_of_ble_eq_true rfl) rfl (fun X hst ht => j_X11_word hst ht N x0 x1 x2 x3 g (fun _ _ h => h.1 _ rfl) (fun _ h => h.2 rfl))

theorem j_X11_row_15 {X : ZX} (hst : (xl X).stackTraces = false) (ht : ∀ x ∈ (xc X).exceptionTable.toList, False)    (g : ZS) {K : (Option Int64 × ZS) → Prop} (h0 : ∀ v g, K (some v, g) → xK X (some (.long v)) g) (hX : ∀ g, K (none, g) → ∀ t, zThr Y_X11_row X g t → xQ X t) : J Y_X11_row X 0 0 15 [none, none] [] g (f_X11_row_15 g) K := by
  unfold f_X11_row_15
  exact J_throwW (i := 171) hst ht rfl t_s460 (by decide +kernel) (show decode cX11_row 15 = .ok (.new 164, 3) by decide +kernel) (show decode cX11_row 18 = .ok (.dup, 1) by decide +kernel) (show decode cX11_row 19 = .ok (.ldc_w 460, 3) by decide +kernel) (show decode cX11_row 22 = .ok (.invokespecial 168, 3) by decide +kernel) (show decode cX11_row 25 = .ok (.athrow, 1) by decide +kernel) (by decide) (Nat.le_of_ble_eq_true rfl) (by decide) (by decide) (hX _)

theorem j_X11_row {X : ZX} (hst : (xl X).stackTraces = false) (ht : ∀ x ∈ (xc X).exceptionTable.toList, False) (x0 : Nat) (x1 : Int32)   (g : ZS) {K : (Option Int64 × ZS) → Prop} (h0 : ∀ v g, K (some v, g) → xK X (some (.long v)) g) (hX : ∀ g, K (none, g) → ∀ t, zThr Y_X11_row X g t → xQ X t) : J Y_X11_row X 0 0 0 [some (.ref x0), some (.int x1)] [] g (f_X11_row x0 x1 g) K := by
  unfold f_X11_row
  refine J_iload_n rfl rfl (show Dc Y_X11_row 0 (.iload_n 1) 1 1 from ⟨by decide +kernel, rfl⟩) ?_
  refine J_if_lt (tg := 15) (show Dc Y_X11_row 1 (.ifCond .lt 14) 3 4 from ⟨by decide +kernel, rfl⟩) (by decide) (fun h => ?_) (fun h => ?_)
  · refine J_mask [false, false] ?_
    exact j_X11_row_15 hst ht g h0 hX
  · refine J_iload_n rfl rfl (show Dc Y_X11_row 4 (.iload_n 1) 1 5 from ⟨by decide +kernel, rfl⟩) ?_
    refine J_aload_n rfl rfl (show Dc Y_X11_row 5 (.aload_n 0) 1 6 from ⟨by decide +kernel, rfl⟩) ?_
    refine J_getR (show Dc Y_X11_row 6 (.getfield 19) 3 9 from ⟨by decide +kernel, rfl⟩) w_f_RX11_19 rfl (fun v1 => ?_)
    refine J_getI (show Dc Y_X11_row 9 (.getfield 254) 3 12 from ⟨by decide +kernel, rfl⟩) w_f_RX11_254 rfl (fun v2 => ?_)
    refine J_icmp_lt (tg := 26) (show Dc Y_X11_row 12 (.if_icmp .lt 14) 3 15 from ⟨by decide +kernel, rfl⟩) (by decide) (fun h => ?_) (fun h => ?_)
    · refine J_aload_n rfl rfl (show Dc Y_X11_row 26 (.aload_n 0) 1 27 from ⟨by decide +kernel, rfl⟩) ?_
      refine J_getR (show Dc Y_X11_row 27 (.getfield 19) 3 30 from ⟨by decide +kernel, rfl⟩) w_f_RX11_19 rfl (fun v3 => ?_)
      refine J_getR (show Dc Y_X11_row 30 (.getfield 462) 3 33 from ⟨by decide +kernel, rfl⟩) w_f_RX11_462 rfl (fun v4 => ?_)
      refine J_iload_n rfl rfl (show Dc Y_X11_row 33 (.iload_n 1) 1 34 from ⟨by decide +kernel, rfl⟩) ?_
      refine J_lald (show Dc Y_X11_row 34 (.laload) 1 35 from ⟨by decide +kernel, rfl⟩) (fun v5 => ?_)
      exact J_retl (show Dc Y_X11_row 35 (.lreturn) 1 36 from ⟨by decide +kernel, rfl⟩) rfl (h0 _ _) (by decide) (by decide)
    · refine J_mask [false, false] ?_
      exact j_X11_row_15 hst ht g h0 hX

theorem c_X11_row {l : Launch} (hl : l.stackTraces = false) {D : ZD} {B0 : Nat} (x0 : Nat) (x1 : Int32) (g : ZS) : ∀ r, f_X11_row x0 x1 g = some r → zCtX l D B0 yX11_row Y_X11_row [.ref x0, .int x1] g (r.1.map fun v => some (.long v)) r.2 :=
  zCtX_of (vo := fun r => (r.1.map fun v => some (.long v))) (so := fun r => r.2) hl (by decide +kernel) rfl rfl (Nat.le_of_ble_eq_true rfl) rfl (fun X hst ht => j_X11_row hst ht x0 x1 g (fun _ _ h => h.1 _ rfl) (fun _ h => h.2 rfl))
